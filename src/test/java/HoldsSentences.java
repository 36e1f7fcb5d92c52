/** Term IV and promises 22 to 28, sentence by sentence. */
final class HoldsSentences {
    private static final int MIN = Integer.MIN_VALUE;
    private static final int MAX = Integer.MAX_VALUE;
    private static final int NO_LAW = GazetteHouse.NO_LAW;
    private static final int[] NO_DAYS = {-1, 10_000, MIN, MAX};
    private static final int[] NO_KEYS = {-1, 40, MIN, MAX};
    private static final long W = Due.word("w");
    private static final long X = Due.word("x");
    private static final long Y = Due.word("y");
    private static final long Z = Due.word("z");
    private static final long EIGHT = Due.word("zzzzzzzz");
    private static final long[] NO_WORDS = {0, 27, 31, 32, 27 << 5 | 1, 1 << 10 | 1, EIGHT + 1, EIGHT - 26,
        EIGHT * 32 + 1, 1L << 40 | Due.word("aaaaaaaa"), -1, Long.MIN_VALUE, Long.MAX_VALUE};
    private final Due due;

    HoldsSentences(Due due) {
        this.due = due;
    }

    void all() {
        laws();
        lesserNumber();
        known();
        voids();
        whichLaw();
        renames();
        hasName();
        hadBeen();
        strikes();
        law();
        source();
        isVoid();
        changes();
        changesNone();
        find();
        found();
        struck();
    }

    private static GazetteHouse house() {
        return Due.house("a:word;b:word?;c:one p/q?;d:num 0..99?;e:day?");
    }

    /** A notice of one line that no issue must have. */
    private static int add(GazetteHouse x, String text) {
        return Due.notice(x, 0, text, 1, 9_999);
    }

    /** An issue with all that wait. */
    private static void print(GazetteHouse x, int day) {
        x.issue(day, day + 1, 8, 60);
    }

    // ---- Term IV

    private void laws() {
        due.term("promises 15 and 22", "LAWS: of a NOTICE, up to four: a KEY has a VALUE (an int, not the least) from a day on.");
        GazetteHouse x = house();
        add(x, "a=x");
        due.refused(x, "says of the least value", x.says(0, 0, MIN, 0), 2);
        due.taken(x, "says(0, 0, MIN + 1, 0)", x.says(0, 0, MIN + 1, 0), 1);
        due.taken(x, "says(0, 1, MAX, 9999)", x.says(0, 1, MAX, 9_999), 2);
        due.taken(x, "says(0, 2, -1, 50)", x.says(0, 2, -1, 50), 3);
        due.taken(x, "says(0, 3, 0, 50)", x.says(0, 3, 0, 50), 4);
        due.refused(x, "says(0, 4, 0, 50)", x.says(0, 4, 0, 50), 3);
        print(x, 0);
        due.is("law(0, 0, 0)", x.law(0, 0, 0), MIN + 1);
        due.is("law(1, 9998, 0)", x.law(1, 9_998, 0), NO_LAW);
        due.is("law(1, 9999, 0)", x.law(1, 9_999, 0), MAX);
        due.is("law(2, 49, 0)", x.law(2, 49, 0), NO_LAW);
        due.is("law(2, 50, 0)", x.law(2, 50, 0), -1);
        due.is("law(2, 51, 0)", x.law(2, 51, 0), -1);
        due.is("law(2, 9999, 0)", x.law(2, 9_999, 0), -1);
        due.is("law(3, 50, 0)", x.law(3, 50, 0), 0);
        due.is("law(4, 50, 0)", x.law(4, 50, 0), NO_LAW);
    }

    private void lesserNumber() {
        due.term("promises 16 and 24", "A NOTICE may CORRECT one of a lesser number.");
        GazetteHouse x = house();
        for (int i = 0; i < 3; i++) {
            add(x, "a=x");
        }
        due.refused(x, "corrects(0, 0)", x.corrects(0, 0), 2);
        due.refused(x, "corrects(0, 1)", x.corrects(0, 1), 2);
        due.refused(x, "corrects(1, 2)", x.corrects(1, 2), 2);
        due.taken(x, "corrects(1, 0)", x.corrects(1, 0));
        due.taken(x, "corrects(2, 0)", x.corrects(2, 0));
        print(x, 0);
        due.is("isVoid(0, 0)", x.isVoid(0, 0), 1);
        due.is("isVoid(1, 0)", x.isVoid(1, 0), 0);
        due.is("isVoid(2, 0): one need not correct", x.isVoid(2, 0), 0);
    }

    private void known() {
        due.term("promises 22 to 28", "What is KNOWN on a day: NOTICES PRINTED up to it (it, too);");
        GazetteHouse x = house();
        add(x, "a=x");
        x.says(0, 1, 5, 0);
        x.strikes(0, X);
        x.renames(0, X, Y);
        knownIs(x, 9_999, false);
        print(x, 7);
        knownIs(x, 0, false);
        knownIs(x, 6, false);
        knownIs(x, 7, true);
        knownIs(x, 8, true);
        knownIs(x, 9_999, true);
    }

    private void knownIs(GazetteHouse x, int day, boolean is) {
        due.is("law(1, 0, " + day + ")", x.law(1, 0, day), is ? 5 : NO_LAW);
        due.is("source(1, 0, " + day + ")", x.source(1, 0, day), is ? 0 : -1);
        due.is("isVoid(0, " + day + ")", x.isVoid(0, day), is ? 0 : -1);
        due.is("changes(1, " + day + ")", x.changes(1, day), is ? 1 : 0);
        due.is("find(x, " + day + ")", x.find(X, day), is ? 1 : 0);
        due.is("find(y, " + day + ")", x.find(Y, day), is ? 1 : 0);
        due.is("struck(x, " + day + ")", x.struck(X, day), is ? 1 : 0);
    }

    private void voids() {
        due.term("promises 22 to 25", "one is VOID if one that corrects it is KNOWN and not VOID itself.");
        GazetteHouse x = house();
        for (int day = 0; day < 4; day++) {
            add(x, "a=x");
            x.corrects(day, day - 1);
            print(x, day);
        }
        int[][] want = {{0, -1, -1, -1}, {1, 0, -1, -1}, {0, 1, 0, -1}, {1, 0, 1, 0}};
        for (int known = 0; known < 4; known++) {
            for (int i = 0; i < 4; i++) {
                due.is("isVoid(" + i + ", " + known + ")", x.isVoid(i, known), want[known][i]);
            }
        }
        add(x, "a=x");
        x.corrects(4, 3);
        due.is("isVoid(3, 9999): one that waits corrects nothing", x.isVoid(3, 9_999), 0);
        add(x, "a=x");
        x.corrects(5, 3);
        print(x, 4);
        due.is("isVoid(3, 4): two correct it", x.isVoid(3, 4), 1);
        add(x, "a=x");
        x.corrects(6, 5);
        print(x, 5);
        due.is("isVoid(3, 5): one of the two is void", x.isVoid(3, 5), 1);
        add(x, "a=x");
        x.corrects(7, 4);
        print(x, 6);
        due.is("isVoid(3, 6): both are void", x.isVoid(3, 6), 0);

        GazetteHouse long60 = house();
        for (int i = 0; i < 60; i++) {
            add(long60, "a=x");
            long60.corrects(i, i - 1);
        }
        for (int day = 0; day < 5; day++) {
            print(long60, day);
        }
        for (int i = 0; i < 60; i++) {
            due.is("isVoid(" + i + ", 4) in a line of sixty", long60.isVoid(i, 4), (59 - i) % 2);
        }
    }

    private void whichLaw() {
        due.term("promises 22 and 23", "LAW of a KEY for a day, as KNOWN on another one: of LAWS of KNOWN NOTICES that are not VOID,"
                + " for the KEY, from that day or ahead of it: that with the latest day from; of these that of the greatest NOTICE, its latest.");
        GazetteHouse x = house();
        add(x, "a=x");
        x.says(0, 7, 100, 50);
        x.says(0, 8, 999, 45);
        add(x, "a=x");
        x.says(1, 7, 200, 40);
        x.says(1, 7, 201, 40);
        x.says(1, 7, 202, 30);
        print(x, 0);
        lawIs(x, 29, 0, NO_LAW, -1);
        lawIs(x, 30, 0, 202, 1);
        lawIs(x, 39, 0, 202, 1);
        lawIs(x, 40, 0, 201, 1);
        lawIs(x, 49, 0, 201, 1);
        lawIs(x, 50, 0, 100, 0);
        lawIs(x, 9_999, 0, 100, 0);
        add(x, "a=x");
        x.says(2, 7, 300, 40);
        x.says(2, 7, 301, 50);
        print(x, 1);
        lawIs(x, 40, 0, 201, 1);
        lawIs(x, 39, 1, 202, 1);
        lawIs(x, 40, 1, 300, 2);
        lawIs(x, 50, 1, 301, 2);
        add(x, "a=x");
        x.corrects(3, 2);
        print(x, 2);
        lawIs(x, 40, 2, 201, 1);
        lawIs(x, 50, 2, 100, 0);
        lawIs(x, 50, 1, 301, 2);
        add(x, "a=x");
        x.says(4, 7, 400, 10);
        print(x, 3);
        lawIs(x, 29, 3, 400, 4);
        lawIs(x, 40, 3, 201, 1);
        numbersAgainstPrinting();
    }

    private void lawIs(GazetteHouse x, int day, int known, int value, int source) {
        due.is("law(7, " + day + ", " + known + ")", x.law(7, day, known), value);
        due.is("source(7, " + day + ", " + known + ")", x.source(7, day, known), source);
    }

    /** The greater notice is printed first; it still holds when the lesser one comes. */
    private void numbersAgainstPrinting() {
        GazetteHouse x = house();
        Due.notice(x, 0, "a=x", 10, 9_999);
        Due.notice(x, 0, "a=x", 10, 0);
        x.says(0, 7, 10, 5);
        x.says(1, 7, 11, 5);
        x.issue(0, 1, 1, 10);
        x.issue(1, 2, 1, 10);
        lawIs(x, 5, 0, 11, 1);
        lawIs(x, 5, 1, 11, 1);
    }

    private void renames() {
        due.term("promises 17 and 26", "RENAMES: of a NOTICE, one: a WORD becomes another one.");
        GazetteHouse x = house();
        add(x, "a=x");
        add(x, "a=w");
        x.renames(1, X, Y);
        x.renames(1, X, Z);
        due.refused(x, "renames(1, x, x)", x.renames(1, X, X), 2);
        due.is("about(1, 6)", x.about(1, 6), 1);
        print(x, 0);
        due.is("find(z, 0)", x.find(Z, 0), 1);
        due.is("find(y, 0)", x.find(Y, 0), 0);
        due.is("find(x, 0): the older one has not been the newer", x.find(X, 0), 1);
        edgeWords("a", "zzzzzzzz");
        edgeWords("zzzzzzzz", "a");
    }

    private void edgeWords(String from, String to) {
        GazetteHouse x = house();
        add(x, "a=" + from);
        add(x, "a=x");
        x.renames(1, Due.word(from), Due.word(to));
        print(x, 0);
        due.is("find(" + to + ", 0), which had been " + from, x.find(Due.word(to), 0), 1);
        due.is("find(" + from + ", 0)", x.find(Due.word(from), 0), 1);
    }

    private void hasName() {
        due.term("promise 26", "A NOTICE has a name if a FIELD of it is a word with that VALUE.");
        GazetteHouse x = house();
        Due.form(x, "a:num 0..99;b:day;c:one p/q;d:span 0 work b");
        Due.form(x, "a:day?;b:day?;c:day?;d:day?;e:day?;f:day?;g:day?;h:word?");
        add(x, "a=x;b=y");
        add(x, "a=y;b=x");
        add(x, "a=z;b=z");
        add(x, "a=z;c=p;d=1;e=2");
        Due.notice(x, 1, "a=24;b=24;c=q", 1, 9_999);
        Due.notice(x, 2, "h=x", 1, 9_999);
        Due.notice(x, 2, "a=24", 1, 9_999);
        print(x, 0);
        foundAre(x, "find(x, 0): not a num or a day of 24", x.find(X, 0), 0, 1, 5);
        foundAre(x, "find(y, 0)", x.find(Y, 0), 0, 1);
        foundAre(x, "find(z, 0): one of two such fields counts once", x.find(Z, 0), 2, 3);
        foundAre(x, "find(p, 0): a word of one is no name", x.find(Due.word("p"), 0));
        foundAre(x, "find(q, 0)", x.find(Due.word("q"), 0));
        foundAre(x, "find(a, 0): nor is a 1", x.find(1, 0));
        foundAre(x, "find(zz, 0)", x.find(Due.word("zz"), 0));
    }

    /** What find() told, and found() of each. */
    private void foundAre(GazetteHouse x, String call, int told, int... want) {
        due.is(call, told, want.length);
        for (int i = 0; i < want.length; i++) {
            due.is("found(" + i + ") behind " + call, x.found(i), want[i]);
        }
        due.is("found(" + want.length + ") behind " + call, x.found(want.length), -1);
    }

    private void hadBeen() {
        due.term("promise 26", "As KNOWN on a day a name had been another one if a KNOWN NOTICE, VOID or not,"
                + " that renames leads from that to it, in one step or more.");
        GazetteHouse x = house();
        add(x, "a=w");
        add(x, "a=x");
        x.renames(1, W, X);
        print(x, 0);
        add(x, "a=y");
        x.renames(2, X, Y);
        print(x, 1);
        add(x, "a=z");
        x.renames(3, Y, Z);
        foundAre(x, "find(z, 9999): one that waits renames nothing", x.find(Z, 9_999));
        print(x, 2);
        foundAre(x, "find(x, 2) in one step", x.find(X, 2), 0, 1);
        foundAre(x, "find(y, 2) in two steps", x.find(Y, 2), 0, 1, 2);
        foundAre(x, "find(z, 2) in three steps", x.find(Z, 2), 0, 1, 2, 3);
        foundAre(x, "find(w, 2): no step leads back", x.find(W, 2), 0);
        foundAre(x, "find(z, 1): the step is not known yet", x.find(Z, 1));
        foundAre(x, "find(y, 1)", x.find(Y, 1), 0, 1, 2);
        add(x, "a=q");
        x.corrects(4, 2);
        x.renames(4, Z, W);
        print(x, 3);
        due.is("isVoid(2, 3)", x.isVoid(2, 3), 1);
        foundAre(x, "find(z, 3): void or not, and in a ring", x.find(Z, 3), 0, 1, 2, 3);
        foundAre(x, "find(w, 3)", x.find(W, 3), 0, 1, 2, 3);
        sixtySteps(true);
        sixtySteps(false);
    }

    /** Steps aa, ab .. az, ba and so on, each renamed to the next by one of sixty notices. */
    private void sixtySteps(boolean rising) {
        GazetteHouse x = house();
        for (int i = 0; i < 60; i++) {
            int number = add(x, i == 0 ? "a=aa" : "a=a");
            int step = rising ? i : 59 - i;
            x.renames(number, step(step), step(step + 1));
        }
        for (int day = 0; day < 5; day++) {
            print(x, day);
        }
        foundAre(x, "find of what had been aa sixty steps ahead", x.find(step(60), 4), 0);
        foundAre(x, "find of a step not there", x.find(step(61), 4));
    }

    private static long step(int i) {
        return (i / 26 + 1) * 32 + i % 26 + 1;
    }

    private void strikes() {
        due.term("promises 18 and 28", "A NOTICE may STRIKE a WORD: as KNOWN from its day on it is STRUCK (VOID or not).");
        GazetteHouse x = house();
        add(x, "a=x");
        x.strikes(0, X);
        due.is("struck(x, 9999) while it waits", x.struck(X, 9_999), 0);
        print(x, 5);
        add(x, "a=x");
        x.corrects(1, 0);
        x.renames(1, X, Y);
        print(x, 6);
        due.is("struck(x, 4)", x.struck(X, 4), 0);
        due.is("struck(x, 5)", x.struck(X, 5), 1);
        due.is("isVoid(0, 6)", x.isVoid(0, 6), 1);
        due.is("struck(x, 6)", x.struck(X, 6), 1);
        due.is("struck(x, 9999)", x.struck(X, 9_999), 1);
        due.is("struck(y, 9999), which had been x", x.struck(Y, 9_999), 0);
        due.is("find(x, 6): a struck one is found", x.find(X, 6), 2);
    }

    // ---- promises 22 to 25

    /** Notice 0 is printed on day 3 and has a law of key 1 from day 10 on; notice 1 waits. */
    private static GazetteHouse oneLaw() {
        GazetteHouse x = house();
        Due.notice(x, 0, "a=x", 10, 0);
        x.says(0, 1, 5, 10);
        x.strikes(0, X);
        x.issue(3, 4, 1, 10);
        Due.notice(x, 0, "a=x", 10, 9_999);
        x.says(1, 1, 6, 0);
        x.corrects(1, 0);
        return x;
    }

    private void law() {
        due.promise(22, "LAW of a KEY for a day, as KNOWN on another one;");
        GazetteHouse x = oneLaw();
        due.is("law(1, 10, 3)", x.law(1, 10, 3), 5);
        due.is("law(1, 9999, 9999)", x.law(1, 9_999, 9_999), 5);

        due.promise(22, "NO_LAW if there is none (or no such KEY, day).");
        due.is("law(1, 9, 3): from a later day", x.law(1, 9, 3), NO_LAW);
        due.is("law(1, 10, 2): not known", x.law(1, 10, 2), NO_LAW);
        due.is("law(0, 10, 3): of another key", x.law(0, 10, 3), NO_LAW);
        for (int key : NO_KEYS) {
            due.is("law(" + key + ", 10, 3)", x.law(key, 10, 3), NO_LAW);
        }
        for (int day : NO_DAYS) {
            due.is("law(1, " + day + ", 3)", x.law(1, day, 3), NO_LAW);
            due.is("law(1, 10, " + day + ")", x.law(1, 10, day), NO_LAW);
        }
    }

    private void source() {
        due.promise(23, "The NOTICE that tells it; NONE.");
        GazetteHouse x = oneLaw();
        due.is("source(1, 10, 3)", x.source(1, 10, 3), 0);
        due.is("source(1, 9999, 9999)", x.source(1, 9_999, 9_999), 0);
        due.is("source(1, 9, 3)", x.source(1, 9, 3), -1);
        due.is("source(1, 10, 2)", x.source(1, 10, 2), -1);
        due.is("source(0, 10, 3)", x.source(0, 10, 3), -1);
        for (int key : NO_KEYS) {
            due.is("source(" + key + ", 10, 3)", x.source(key, 10, 3), -1);
        }
        for (int day : NO_DAYS) {
            due.is("source(1, " + day + ", 3)", x.source(1, day, 3), -1);
            due.is("source(1, 10, " + day + ")", x.source(1, 10, day), -1);
        }
        x.issue(4, 5, 1, 10);
        due.is("source(1, 10, 4)", x.source(1, 10, 4), 1);
        due.is("source(1, 10, 3): as known ahead", x.source(1, 10, 3), 0);
    }

    private void isVoid() {
        due.promise(24, "Whether a NOTICE is VOID as KNOWN on a day: 1, 0;");
        GazetteHouse x = oneLaw();
        due.is("isVoid(0, 3)", x.isVoid(0, 3), 0);
        x.issue(5, 6, 1, 10);
        due.is("isVoid(0, 4)", x.isVoid(0, 4), 0);
        due.is("isVoid(0, 5)", x.isVoid(0, 5), 1);
        due.is("isVoid(0, 9999)", x.isVoid(0, 9_999), 1);
        due.is("isVoid(1, 5)", x.isVoid(1, 5), 0);
        due.is("isVoid(0, 4), asked for once more", x.isVoid(0, 4), 0);

        due.promise(24, "NONE if it isn't KNOWN, or there is no such day.");
        due.is("isVoid(0, 2)", x.isVoid(0, 2), -1);
        due.is("isVoid(1, 4)", x.isVoid(1, 4), -1);
        int[] none = {-1, 2, 60, MIN, MAX};
        for (int notice : none) {
            due.is("isVoid(" + notice + ", 5)", x.isVoid(notice, 5), -1);
        }
        for (int day : NO_DAYS) {
            due.is("isVoid(0, " + day + ")", x.isVoid(0, day), -1);
        }
        add(x, "a=x");
        due.is("isVoid(2, 9999) of one that waits", x.isVoid(2, 9_999), -1);
        GazetteHouse y = house();
        Due.notice(y, 0, "a=x", 10, 9_999);
        Due.notice(y, 0, "a=x", 10, 0);
        y.corrects(1, 0);
        y.issue(1, 2, 1, 10);
        due.is("isVoid(0, 1): corrected ahead of its being printed", y.isVoid(0, 1), -1);
        y.issue(2, 3, 1, 10);
        due.is("isVoid(0, 2)", y.isVoid(0, 2), 1);
    }

    private void changes() {
        due.promise(25, "How many days from 0 to 9,999 have a LAW of a KEY that differs from that of the day ahead"
                + " (of day 0: that there is one), as KNOWN on a day;");
        GazetteHouse x = house();
        add(x, "a=x");
        x.says(0, 1, 10, 0);
        x.says(0, 3, 10, 60);
        x.says(0, 3, 11, 40);
        x.says(0, 3, 12, 20);
        due.is("changes(1, 9999) while it waits", x.changes(1, 9_999), 0);
        print(x, 0);
        due.is("changes(1, 0): on day 0", x.changes(1, 0), 1);
        due.is("changes(2, 0): there is none", x.changes(2, 0), 0);
        due.is("changes(3, 0): on day 20, 40 and 60, told the other way round", x.changes(3, 0), 3);
        latestDayFirst();
        add(x, "a=x");
        x.says(1, 1, 10, 50);
        x.says(1, 1, 20, 100);
        x.says(1, 1, 10, 9_999);
        x.says(1, 2, 0, 1);
        print(x, 1);
        due.is("changes(1, 1): on day 0, 100 and 9999, not on 50", x.changes(1, 1), 3);
        due.is("changes(1, 0), as known ahead", x.changes(1, 0), 1);
        due.is("changes(2, 1): on day 1", x.changes(2, 1), 1);
        add(x, "a=x");
        x.says(2, 1, 30, 100);
        x.says(2, 1, 30, 101);
        x.says(2, 2, 0, 0);
        x.says(2, 2, 0, 1);
        print(x, 2);
        due.is("changes(1, 2): on day 0, 100 and 9999", x.changes(1, 2), 3);
        due.is("changes(2, 2): on day 0", x.changes(2, 2), 1);
        add(x, "a=x");
        x.corrects(3, 0);
        print(x, 3);
        due.is("changes(1, 3): on day 50, 100 and 9999", x.changes(1, 3), 3);
        add(x, "a=x");
        x.corrects(4, 1);
        print(x, 4);
        due.is("changes(1, 4): on day 100", x.changes(1, 4), 1);
        add(x, "a=x");
        x.says(5, 1, 7, 98);
        x.says(5, 1, 8, 99);
        x.says(5, 1, 9, 9_998);
        x.says(5, 1, 30, 9_999);
        print(x, 5);
        due.is("changes(1, 5): on day 98, 99, 100, 9998 and 9999", x.changes(1, 5), 5);
        manyChanges();
    }

    /** The very first law of the house is that of the latest day. */
    private void latestDayFirst() {
        GazetteHouse x = house();
        add(x, "a=x");
        x.says(0, 1, 10, 60);
        add(x, "a=x");
        x.says(1, 1, 11, 40);
        print(x, 0);
        due.is("changes(1, 0): on day 40 and 60", x.changes(1, 0), 2);
    }

    /** Sixty notices of four laws each: a change on each of 240 days. */
    private void manyChanges() {
        GazetteHouse x = house();
        for (int i = 0; i < 60; i++) {
            add(x, "a=x");
            for (int j = 0; j < 4; j++) {
                x.says(i, 39, i * 4 + j, (i * 4 + j) * 41);
            }
        }
        for (int day = 0; day < 5; day++) {
            print(x, day);
        }
        due.is("changes(39, 4)", x.changes(39, 4), 240);
        due.is("changes(39, 0)", x.changes(39, 0), 48);
    }

    private void changesNone() {
        due.promise(25, "NONE for no such KEY, day.");
        GazetteHouse x = oneLaw();
        due.is("changes(1, 3)", x.changes(1, 3), 1);
        due.is("changes(0, 3)", x.changes(0, 3), 0);
        due.is("changes(39, 3)", x.changes(39, 3), 0);
        for (int key : NO_KEYS) {
            due.is("changes(" + key + ", 3)", x.changes(key, 3), -1);
        }
        for (int day : NO_DAYS) {
            due.is("changes(1, " + day + ")", x.changes(1, day), -1);
        }
    }

    // ---- promises 26 to 28

    private void find() {
        due.promise(26, "How many KNOWN NOTICES have a word, or one that it had been;");
        GazetteHouse x = house();
        add(x, "a=x");
        add(x, "a=y;b=x");
        add(x, "a=z");
        x.renames(2, X, Y);
        print(x, 1);
        due.is("find(x, 0)", x.find(X, 0), 0);
        due.is("find(x, 1)", x.find(X, 1), 2);
        due.is("find(y, 1): 1 has both and counts once", x.find(Y, 1), 2);
        due.is("find(z, 1)", x.find(Z, 1), 1);
        due.is("find(zzzzzzzz, 1)", x.find(EIGHT, 1), 0);
        GazetteHouse full = house();
        for (int i = 0; i < 60; i++) {
            add(full, "a=x");
        }
        for (int day = 0; day < 5; day++) {
            print(full, day);
        }
        due.is("find(x, 4) of all sixty", full.find(X, 4), 60);
        due.is("found(59)", full.found(59), 59);
        due.is("found(60)", full.found(60), -1);
        due.is("find(x, 3)", full.find(X, 3), 48);

        due.promise(26, "NONE for no word, no day.");
        for (long word : NO_WORDS) {
            due.is("find(" + word + ", 1)", x.find(word, 1), -1);
        }
        for (int day : NO_DAYS) {
            due.is("find(x, " + day + ")", x.find(X, day), -1);
        }
        due.is("find(0, -1)", x.find(0, -1), -1);
    }

    private void found() {
        due.promise(27, "The i-th that the latest find() that told a number found, by number; NONE.");
        GazetteHouse x = house();
        due.is("found(0) ahead of any find()", x.found(0), -1);
        Due.notice(x, 0, "a=x", 10, 9_000);
        Due.notice(x, 0, "a=y", 10, 8_000);
        Due.notice(x, 0, "a=x", 10, 0);
        x.issue(1, 2, 1, 10);
        x.issue(2, 3, 2, 10);
        foundAre(x, "find(x, 2), by number, not as printed", x.find(X, 2), 0, 2);
        int[] none = {-1, 2, 60, MIN, MAX};
        for (int i : none) {
            due.is("found(" + i + ")", x.found(i), -1);
        }
        due.is("find of no word", x.find(0, 2), -1);
        due.is("find of no day", x.find(Y, 10_000), -1);
        due.is("found(0) behind such as told no number", x.found(0), 0);
        due.is("found(1) behind such as told no number", x.found(1), 2);
        add(x, "a=x");
        print(x, 3);
        due.is("found(2): what came later was not found then", x.found(2), -1);
        due.is("find(w, 2)", x.find(W, 2), 0);
        due.is("found(0): 0 is a number, too", x.found(0), -1);
        foundAre(x, "find(y, 2)", x.find(Y, 2), 1);
    }

    private void struck() {
        due.promise(28, "Whether a word is STRUCK as KNOWN on a day: 1, 0;");
        GazetteHouse x = oneLaw();
        due.is("struck(x, 2)", x.struck(X, 2), 0);
        due.is("struck(x, 3)", x.struck(X, 3), 1);
        due.is("struck(x, 9999)", x.struck(X, 9_999), 1);
        due.is("struck(y, 9999)", x.struck(Y, 9_999), 0);
        due.is("struck(zzzzzzzz, 9999)", x.struck(EIGHT, 9_999), 0);

        due.promise(28, "NONE as in find().");
        for (long word : NO_WORDS) {
            due.is("struck(" + word + ", 3)", x.struck(word, 3), -1);
        }
        for (int day : NO_DAYS) {
            due.is("struck(x, " + day + ")", x.struck(X, day), -1);
        }
    }
}
