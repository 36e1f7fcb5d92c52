import java.util.Random;

/** All promises at once: random runs of 512 calls, each answer held against PlainHouse. */
public final class RandomRunsTest {
    private static final int RUNS = 1500;
    private static final int CALLS = 512;
    private static final Due due = new Due();
    private final Random random;
    private final GazetteHouse x = new GazetteHouse();
    private final PlainHouse y = new PlainHouse();
    private final String[] formTexts = new String[12];
    private int latestDay;
    private int calls;
    // How much of a run goes to making notices, so that some runs fill the house and others the days.
    private final int busy;

    private RandomRunsTest(long seed) {
        random = new Random(seed);
        busy = random.nextInt(60);
    }

    public static void main(String[] args) {
        for (int run = 0; run < RUNS; run++) {
            due.part("run " + run);
            RandomRunsTest one = new RandomRunsTest(run);
            while (one.calls < CALLS) {
                one.step();
            }
        }
        due.end();
    }

    private void is(String call, long got, long want) {
        calls++;
        due.is(call, got, want);
    }

    private int pick(int... of) {
        return of[random.nextInt(of.length)];
    }

    private String pick(String... of) {
        return of[random.nextInt(of.length)];
    }

    /** Mostly 0 to most, at times one outside. */
    private int near(int most) {
        int r = random.nextInt(40);
        if (r == 0) {
            return pick(-1, most + 1, Integer.MIN_VALUE, Integer.MAX_VALUE);
        }
        return random.nextInt(most + 1);
    }

    private int day() {
        int r = random.nextInt(10);
        if (r == 0) {
            return near(9999);
        }
        if (r == 1) {
            return 9990 + random.nextInt(10);
        }
        return random.nextInt(60) + (random.nextBoolean() ? latestDay : 0);
    }

    private long word() {
        if (random.nextInt(30) == 0) {
            return random.nextBoolean() ? random.nextLong() : random.nextInt(2000) - 5;
        }
        return Due.word(pick("x", "y", "z", "ann", "abcdefgh"));
    }

    private int noticeNumber() {
        int most = Math.max(0, y.count(2) - 1);
        return random.nextInt(3) > 0 ? Math.max(0, most - random.nextInt(4)) : near(most);
    }

    private void step() {
        int r = random.nextInt(100);
        if (r < busy) {
            aNotice();
        } else {
            r = random.nextInt(100);
            if (r < 8) {
                aForm();
            } else if (r < 20) {
                days();
            } else if (r < 45) {
                sayings();
            } else if (r < 55) {
                anIssue();
            } else if (r < 60) {
                is("undo()", x.undo(), y.undo());
            } else if (r < 62) {
                rawTape();
            } else {
                questions();
            }
        }
        if (random.nextBoolean()) {
            is("trouble()", x.trouble(), y.trouble());
        }
        if (random.nextInt(4) == 0) {
            is("where()", x.where(), y.where());
            is("fault()", x.fault(), y.fault());
            is("lacks()", x.lacks(), y.lacks());
        }
    }

    private void days() {
        int day = day();
        boolean on = random.nextInt(4) > 0;
        int n = random.nextInt(5) == 0 ? near(9999) : random.nextInt(30);
        switch (random.nextInt(3)) {
            case 0 -> is("feast(" + day + ", " + on + ")", x.feast(day, on) ? 1 : 0, y.feast(day, on));
            case 1 -> is("working(" + day + ")", x.working(day), y.working(day));
            default -> is("after(" + day + ", " + n + ", " + on + ")", x.after(day, n, on), y.after(day, n, on));
        }
    }

    private int feedBoth(String text) {
        StringBuilder all = new StringBuilder(text);
        while (all.length() % 20 != 0) {
            all.append(pick(" ", "\n", ";", "a"));
        }
        for (int i = 0; i < all.length(); i += 20) {
            int[] five = new int[5];
            for (int j = 0; j < 20; j++) {
                five[j / 4] = five[j / 4] << 8 | all.charAt(i + j) & 255;
            }
            is("feed", x.feed(five[0], five[1], five[2], five[3], five[4]), y.feed(five));
        }
        return random.nextInt(30) == 0 ? random.nextInt(410) - 5 : text.length();
    }

    private void rawTape() {
        for (int i = random.nextInt(random.nextInt(10) == 0 ? 22 : 3); i >= 0; i--) {
            int[] five = {random.nextInt(), random.nextInt(), random.nextInt(), random.nextInt(), random.nextInt()};
            is("feed", x.feed(five[0], five[1], five[2], five[3], five[4]), y.feed(five));
        }
    }

    /** A byte put in, taken out or put in place of another, at times. */
    private String spoilt(String text) {
        if (random.nextInt(3) > 0 || text.isEmpty()) {
            return text;
        }
        int at = random.nextInt(text.length());
        String put = pick(" ", "\n", "a", "x", "7", "..", ".", ":", ";", "?", "/", "=", "@", "abcdefghi", "12345", "\u00e9", "b:day;", ";a=3");
        return switch (random.nextInt(4)) {
            case 0 -> text.substring(0, at);
            case 1 -> text.substring(0, at) + put + text.substring(at);
            case 2 -> text.substring(0, at) + put + text.substring(at + 1);
            default -> text.substring(0, at) + text.substring(at + 1);
        };
    }

    private String blank() {
        return pick("", "", " ", "\n ");
    }

    private String aField(String name) {
        String kind = switch (random.nextInt(7)) {
            case 0 -> "num " + random.nextInt(9) + ".." + random.nextInt(random.nextInt(4) == 0 ? 9 : 9999);
            case 1, 2 -> "day";
            case 3 -> "word";
            case 4 -> {
                StringBuilder words = new StringBuilder("one " + pick("p", "q", "r"));
                for (int i = random.nextInt(5); i > 0; i--) {
                    words.append(blank()).append('/').append(pick("p", "q", "r", "s", "t", "u", "v", "w"));
                }
                yield words.toString();
            }
            default -> "span " + random.nextInt(20) + " " + pick("days", "work") + " " + pick("a", "b", "c");
        };
        return name + blank() + ":" + blank() + kind + (random.nextInt(3) == 0 ? "?" : "");
    }

    private void aForm() {
        StringBuilder text = new StringBuilder();
        if (random.nextInt(5) > 0) {
            // One that is good, with most kinds in it.
            text.append(pick("a:day;b:span 3 days a;c:word;d:one p/q?", "a:word;b:word?;c:word?", "a:num 3..9;b:day?;c:span 2 work b;d:span 1 days c;e:word?",
                    "c:day;b:span 9990 work c;a:span 2 days b;d:word?", "a: one p/q/r/s; b: num 0..99?; c: word?", "a:day?;b:day?;c:word?;d:word?;e:span 0 work a;f:span 0 days b"));
        } else {
            int n = 1 + random.nextInt(random.nextInt(6) == 0 ? 10 : 5);
            for (int i = 0; i < n; i++) {
                String name = random.nextInt(20) == 0 ? pick("a", "b") : "" + (char) ('a' + i);
                text.append(i > 0 ? ";" : "").append(aField(name));
            }
        }
        String spoilt = spoilt(text.toString());
        int n = feedBoth(spoilt);
        int got = x.form(n);
        is("form(" + n + ") of '" + spoilt + "'", got, y.form(n));
        if (got >= 0 && got < 12) {
            formTexts[got] = spoilt;
        }
    }

    private String anEntry(int form, int i) {
        int kind = y.field(form, i, 0);
        String name = "" + (char) ('a' + i);
        if (formTexts[form] != null && formTexts[form].startsWith("c:")) {
            name = pick("a", "b", "c", "d");
            kind = name.equals("c") ? 1 : 2;
        }
        String value = switch (random.nextInt(20) == 0 ? random.nextInt(4) : kind) {
            case 0 -> "" + (random.nextInt(6) == 0 ? random.nextInt(10000) : y.field(form, i, 2));
            case 1 -> "" + (random.nextInt(4) == 0 ? 9900 + random.nextInt(100) : random.nextInt(100));
            case 2 -> pick("x", "y", "z", "ann", "abcdefgh");
            default -> pick("p", "q", "p", "q", "r", "s", "t");
        };
        return name + blank() + "=" + blank() + value;
    }

    private void aNotice() {
        int form = random.nextInt(30) == 0 ? near(12) : random.nextInt(Math.max(1, y.count(1)));
        StringBuilder text = new StringBuilder();
        int n = y.fields(form);
        for (int i = 0; i < n; i++) {
            boolean span = y.field(form, i, 0) >= 4;
            boolean told = y.field(form, i, 1) == 0 || random.nextBoolean();
            if (random.nextInt(40) == 0 || !span && told) {
                text.append(text.length() > 0 ? ";" : "").append(anEntry(form, i));
            }
        }
        String spoilt = random.nextBoolean() ? text.toString() : spoilt(text.toString());
        int length = feedBoth(spoilt);
        int lines = random.nextInt(4) == 0 ? near(60) : 1 + random.nextInt(random.nextBoolean() ? 20 : 8);
        int dueDay = day();
        is("notice(" + form + ", " + length + ", " + lines + ", " + dueDay + ") of '" + spoilt + "'",
                x.notice(form, length, lines, dueDay), y.notice(form, length, lines, dueDay));
    }

    private void sayings() {
        int n = noticeNumber();
        switch (random.nextInt(4)) {
            case 0 -> {
                int key = random.nextInt(20) == 0 ? near(39) : random.nextInt(3);
                int value = random.nextInt(20) == 0 ? Integer.MIN_VALUE : random.nextInt(4);
                int from = day();
                is("says(" + n + ", " + key + ", " + value + ", " + from + ")", x.says(n, key, value, from), y.says(n, key, value, from));
            }
            case 1 -> {
                int other = random.nextInt(3) == 0 ? noticeNumber() : n - 1 - random.nextInt(3);
                is("corrects(" + n + ", " + other + ")", x.corrects(n, other) ? 1 : 0, y.corrects(n, other));
            }
            case 2 -> {
                long from = word();
                long to = word();
                is("renames(" + n + ", " + from + ", " + to + ")", x.renames(n, from, to) ? 1 : 0, y.renames(n, from, to));
            }
            default -> {
                long word = word();
                is("strikes(" + n + ", " + word + ")", x.strikes(n, word) ? 1 : 0, y.strikes(n, word));
            }
        }
    }

    private void anIssue() {
        int day = random.nextInt(20) == 0 ? day() : latestDay + random.nextInt(5);
        int next = random.nextInt(20) == 0 ? pick(day, 10000, 10001, day()) : day + 1 + random.nextInt(6);
        int pages = random.nextInt(20) == 0 ? near(9) : 1 + random.nextInt(random.nextBoolean() ? 8 : 3);
        int lines = random.nextInt(20) == 0 ? near(70) : 10 + random.nextInt(51);
        int got = x.issue(day, next, pages, lines);
        is("issue(" + day + ", " + next + ", " + pages + ", " + lines + ")", got, y.issue(day, next, pages, lines));
        if (got < 0) {
            return;
        }
        latestDay = day;
        for (int what = 1; what <= 4; what++) {
            is("issued(" + got + ", " + what + ")", x.issued(got, what), y.issued(got, what));
        }
        for (int i = 0; i <= y.issued(got, 1); i++) {
            is("printed(" + got + ", " + i + ")", x.printed(got, i), y.printed(got, i));
        }
    }

    private void questions() {
        int n = noticeNumber();
        int key = random.nextInt(20) == 0 ? near(39) : random.nextInt(3);
        int day = day();
        int known = random.nextInt(20) == 0 ? near(9999) : Math.max(0, latestDay - random.nextInt(12));
        int i = near(8);
        int what = near(8);
        long word = word();
        switch (random.nextInt(13)) {
            case 0 -> is("law(" + key + ", " + day + ", " + known + ")", x.law(key, day, known), y.law(key, day, known));
            case 1 -> is("source(" + key + ", " + day + ", " + known + ")", x.source(key, day, known), y.source(key, day, known));
            case 2 -> is("isVoid(" + n + ", " + known + ")", x.isVoid(n, known), y.isVoid(n, known));
            case 3 -> is("changes(" + key + ", " + known + ")", x.changes(key, known), y.changes(key, known));
            case 4 -> {
                int got = x.find(word, known);
                is("find(" + word + ", " + known + ")", got, y.find(word, known));
                for (int f = 0; f <= Math.min(got, 5); f++) {
                    is("found(" + f + ")", x.found(f), y.found(f));
                }
            }
            case 5 -> is("found(" + i + ")", x.found(i), y.found(i));
            case 6 -> is("struck(" + word + ", " + known + ")", x.struck(word, known), y.struck(word, known));
            case 7 -> is("count(" + what + ")", x.count(what), y.count(what));
            case 8 -> is("field(" + n % 12 + ", " + i + ", " + what + ")", x.field(n % 12, i, what % 5), y.field(n % 12, i, what % 5));
            case 9 -> is("fields(" + i + ")", x.fields(i), y.fields(i));
            case 10 -> is("about(" + n + ", " + what + ")", x.about(n, what), y.about(n, what));
            case 11 -> {
                int issue = near(Math.max(0, y.count(3) - 1));
                is("issued(" + issue + ", " + what + ")", x.issued(issue, what), y.issued(issue, what));
            }
            default -> is("value(" + n + ", " + i + ")", x.value(n, i), y.value(n, i));
        }
    }
}
