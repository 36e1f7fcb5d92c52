import java.util.ArrayList;
import java.util.Arrays;
import java.util.Comparator;
import java.util.HashSet;
import java.util.List;
import java.util.Set;
import java.util.TreeSet;

/**
 * The document once more, in the slowest and plainest way, with the Java library: what the random
 * runs are held against. It shares no way of reckoning with GazetteHouse where there is another:
 * all faults are gathered and the least is told, states are copied for undo(), pages are laid out
 * by trying every way, laws are told day by day.
 */
final class PlainHouse {
    private static final int NONE = -1;
    private static final int NO_LAW = Integer.MIN_VALUE;

    private static final class Field {
        String name;
        int kind;
        boolean mayLack;
        int first;
        int second;
        List<String> words = new ArrayList<>();
    }

    private static final class Notice {
        int form;
        int lines;
        int due;
        int issue = NONE;
        int day = NONE;
        Long[] told;
        long[] printedValues;
        List<int[]> laws = new ArrayList<>();
        int corrected = NONE;
        long from;
        long to;
        long struck;

        Notice copy() {
            Notice c = new Notice();
            c.form = form;
            c.lines = lines;
            c.due = due;
            c.issue = issue;
            c.day = day;
            c.told = told;
            c.printedValues = printedValues;
            c.laws = new ArrayList<>(laws);
            c.corrected = corrected;
            c.from = from;
            c.to = to;
            c.struck = struck;
            return c;
        }
    }

    private static final class State {
        Set<Integer> feasts = new TreeSet<>();
        List<List<Field>> forms = new ArrayList<>();
        List<Notice> notices = new ArrayList<>();

        State copy() {
            State c = new State();
            c.feasts.addAll(feasts);
            c.forms.addAll(forms);
            for (Notice n : notices) {
                c.notices.add(n.copy());
            }
            return c;
        }
    }

    private record Token(char kind, int place, String text) { }

    private State now = new State();
    private final List<State> before = new ArrayList<>();
    private final List<int[]> issues = new ArrayList<>();
    private final List<List<Integer>> issueNotices = new ArrayList<>();
    private final List<Integer> tape = new ArrayList<>();
    private List<Integer> found = new ArrayList<>();
    private int trouble;
    private int fault;
    private int place;
    private int lacking = NONE;

    private static boolean day(int d) {
        return 0 <= d && d < 10000;
    }

    private static boolean word(long w) {
        return w > 0 && w < 1L << 40 && Long.toString(w, 32).chars().allMatch(c -> c >= '1' && c <= '9' || c >= 'a' && c <= 'q');
    }

    private int no(int why) {
        trouble = why;
        return NONE;
    }

    private int yes(int answer) {
        trouble = 0;
        return answer;
    }

    private void act() {
        before.add(now.copy());
        if (before.size() > 100) {
            before.remove(0);
        }
    }

    int feast(int d, boolean on) {
        if (!day(d)) {
            return no(2) + 1;
        }
        if (now.feasts.contains(d) == on) {
            return yes(1);
        }
        if (on && now.feasts.size() == 60) {
            return no(3) + 1;
        }
        act();
        if (on) {
            now.feasts.add(d);
        } else {
            now.feasts.remove(d);
        }
        return yes(1);
    }

    private boolean works(int d) {
        return d % 7 != 5 && d % 7 != 6 && !now.feasts.contains(d);
    }

    int working(int d) {
        return day(d) ? yes(works(d) ? 1 : 0) : no(2);
    }

    private int span(int d, int n, boolean work) {
        if (d > 9999) {
            return 10000;
        }
        if (!work) {
            for (int at = d + n; at < 10000; at++) {
                if (works(at)) {
                    return at;
                }
            }
            return 10000;
        }
        if (n == 0) {
            return d;
        }
        int seen = 0;
        for (int at = d + 1; at < 10000; at++) {
            if (works(at) && ++seen == n) {
                return at;
            }
        }
        return 10000;
    }

    int after(int d, int n, boolean work) {
        return day(d) && day(n) ? yes(span(d, n, work)) : no(2);
    }

    int feed(int... numbers) {
        if (tape.size() > 380) {
            return NONE;
        }
        for (int n : numbers) {
            tape.addAll(List.of(n >>> 24, n >>> 16 & 255, n >>> 8 & 255, n & 255));
        }
        return tape.size();
    }

    // ---- texts: a place is told with each fault; the least place, then the least number, is kept

    private final List<int[]> faults = new ArrayList<>();

    private void blame(int what, int at) {
        faults.add(new int[] {at, what});
    }

    private static final class Shape extends Exception {
        private static final long serialVersionUID = 1L;
    }

    private List<Token> tokens;
    private int at;

    private List<Token> split(int n) {
        StringBuilder text = new StringBuilder();
        for (int i = 0; i < n; i++) {
            text.append((char) (int) tape.get(i));
        }
        List<Token> all = new ArrayList<>();
        java.util.regex.Matcher m = java.util.regex.Pattern
                .compile("[ \\n]+|([a-z]+)|([0-9]+)|(\\.\\.)|([:;?/=])|(.)", java.util.regex.Pattern.DOTALL).matcher(text);
        while (m.find()) {
            String t = m.group();
            if (m.group(1) != null) {
                all.add(new Token(t.length() <= 8 ? 'W' : '!', m.start(), t));
            } else if (m.group(2) != null) {
                all.add(new Token(t.length() <= 4 ? 'N' : '!', m.start(), t));
            } else if (m.group(3) != null) {
                all.add(new Token('D', m.start(), t));
            } else if (m.group(4) != null) {
                all.add(new Token(t.charAt(0), m.start(), t));
            } else if (m.group(5) != null) {
                all.add(new Token('!', m.start(), t));
            }
        }
        all.add(new Token('E', n, ""));
        return all;
    }

    private Token look() {
        return tokens.get(at);
    }

    private Token need(String kinds) throws Shape {
        Token t = look();
        if (kinds.indexOf(t.kind) < 0) {
            blame(1, t.place);
            throw new Shape();
        }
        at++;
        return t;
    }

    private Token needWord(String... words) throws Shape {
        if (look().kind != 'W' || !Arrays.asList(words).contains(look().text)) {
            blame(1, look().place);
            throw new Shape();
        }
        return need("W");
    }

    private static Field named(List<Field> fields, String name) {
        for (Field f : fields) {
            if (f.name.equals(name)) {
                return f;
            }
        }
        return null;
    }

    private List<Field> parseForm() throws Shape {
        List<Field> fields = new ArrayList<>();
        while (true) {
            Token name = need("W");
            if (named(fields, name.text) != null) {
                blame(3, name.place);
            }
            if (fields.size() >= 8) {
                blame(5, name.place);
            }
            need(":");
            Field f = new Field();
            f.name = name.text;
            parseKind(f, fields);
            if (f.kind < 4 && look().kind == '?') {
                f.mayLack = true;
                need("?");
            }
            fields.add(f);
            if (need(";E").kind == 'E') {
                return fields;
            }
        }
    }

    private void parseKind(Field f, List<Field> fields) throws Shape {
        String kind = needWord("num", "day", "word", "one", "span").text;
        f.kind = List.of("num", "day", "word", "one", "span").indexOf(kind);
        if (kind.equals("num")) {
            f.first = Integer.parseInt(need("N").text);
            need("D");
            Token second = need("N");
            f.second = Integer.parseInt(second.text);
            if (f.second < f.first) {
                blame(4, second.place);
            }
        } else if (kind.equals("one")) {
            do {
                Token w = need("W");
                if (f.words.contains(w.text)) {
                    blame(3, w.place);
                }
                f.words.add(w.text);
                if (f.words.size() > 4) {
                    blame(5, w.place);
                }
            } while (look().kind == '/' && need("/") != null);
        } else if (kind.equals("span")) {
            f.first = Integer.parseInt(need("N").text);
            f.kind = needWord("days", "work").text.equals("days") ? 4 : 5;
            Token base = need("W");
            Field b = named(fields, base.text);
            if (b == null || b.kind != 1 && b.kind < 4) {
                blame(2, base.place);
            }
            f.second = fields.indexOf(b);
        }
    }

    private Long[] parseNotice(List<Field> fields) throws Shape {
        Long[] told = new Long[fields.size()];
        Set<String> names = new HashSet<>();
        while (true) {
            Token name = need("W");
            Field f = named(fields, name.text);
            if (f == null || f.kind >= 4) {
                blame(2, name.place);
            } else if (!names.add(name.text)) {
                blame(3, name.place);
            }
            need("=");
            Token value = need("WN");
            if (f != null && f.kind < 4) {
                Long v = read(f, value);
                if (v == null) {
                    blame(4, value.place);
                }
                told[fields.indexOf(f)] = v;
            }
            if (need(";E").kind == 'E') {
                break;
            }
        }
        lacking = NONE;
        for (int i = fields.size() - 1; i >= 0; i--) {
            if (told[i] == null && !fields.get(i).mayLack && fields.get(i).kind < 4) {
                blame(6, tokens.get(tokens.size() - 1).place);
                lacking = i;
            }
        }
        return told;
    }

    private static long asNumber(String word) {
        long n = 0;
        for (char c : word.toCharArray()) {
            n = n * 32 + c - 96;
        }
        return n;
    }

    private static Long read(Field f, Token t) {
        if (f.kind <= 1) {
            if (t.kind != 'N') {
                return null;
            }
            long n = Long.parseLong(t.text);
            return f.kind == 0 && (n < f.first || n > f.second) ? null : n;
        }
        if (t.kind != 'W') {
            return null;
        }
        if (f.kind == 2) {
            return asNumber(t.text);
        }
        return f.words.contains(t.text) ? (long) f.words.indexOf(t.text) : null;
    }

    private boolean settle() {
        tape.clear();
        faults.sort(Comparator.<int[]>comparingInt(f -> f[0]).thenComparingInt(f -> f[1]));
        fault = faults.isEmpty() ? 0 : faults.get(0)[1];
        place = faults.isEmpty() ? NONE : faults.get(0)[0];
        return faults.isEmpty();
    }

    private void open(int n) {
        tokens = split(n);
        at = 0;
        faults.clear();
    }

    int form(int n) {
        if (n < 0 || n > tape.size()) {
            return no(2);
        }
        open(n);
        List<Field> fields = null;
        try {
            fields = parseForm();
        } catch (Shape e) {
            fields = null;
        }
        if (!settle()) {
            return no(4);
        }
        if (now.forms.size() == 12) {
            return no(3);
        }
        act();
        now.forms.add(fields);
        return yes(now.forms.size() - 1);
    }

    int notice(int form, int n, int lines, int due) {
        if (form < 0 || form >= now.forms.size()) {
            return no(1);
        }
        if (n < 0 || n > tape.size() || lines < 1 || lines > 60 || !day(due)) {
            return no(2);
        }
        open(n);
        Notice fresh = new Notice();
        try {
            fresh.told = parseNotice(now.forms.get(form));
        } catch (Shape e) {
            fresh.told = null;
        }
        if (!settle()) {
            return no(4);
        }
        if (now.notices.size() == 60) {
            return no(3);
        }
        act();
        fresh.form = form;
        fresh.lines = lines;
        fresh.due = due;
        now.notices.add(fresh);
        return yes(now.notices.size() - 1);
    }

    int fault() {
        return fault;
    }

    int where() {
        return trouble == 4 ? place : NONE;
    }

    int lacks() {
        return fault == 6 ? lacking : NONE;
    }

    int field(int form, int i, int what) {
        if (fields(form) == NONE || i < 0 || i >= fields(form) || what < 0 || what > 3) {
            return NONE;
        }
        Field f = now.forms.get(form).get(i);
        int[] all = {f.kind, f.mayLack ? 1 : 0, f.kind == 3 ? f.words.size() : f.first, f.kind == 0 || f.kind > 3 ? f.second : 0};
        return all[what];
    }

    int fields(int form) {
        return form < 0 || form >= now.forms.size() ? NONE : now.forms.get(form).size();
    }

    private Notice at(int n) {
        return n < 0 || n >= now.notices.size() ? null : now.notices.get(n);
    }

    private long valueNow(Notice n, int i) {
        Field f = now.forms.get(n.form).get(i);
        if (f.kind < 4) {
            return n.told[i] == null ? NONE : n.told[i];
        }
        long base = valueNow(n, f.second);
        return base == NONE ? NONE : span((int) base, f.first, f.kind == 5);
    }

    long value(int notice, int i) {
        Notice n = at(notice);
        if (n == null || i < 0 || i >= fields(n.form)) {
            return NONE;
        }
        return n.printedValues != null ? n.printedValues[i] : valueNow(n, i);
    }

    int about(int notice, int what) {
        Notice n = at(notice);
        if (n == null || what < 0 || what > 7) {
            return NONE;
        }
        int[] all = {n.form, n.lines, n.due, n.issue, n.laws.size(), n.corrected, n.from > 0 ? 1 : 0, n.struck > 0 ? 1 : 0};
        return all[what];
    }

    int says(int notice, int key, int value, int from) {
        Notice n = at(notice);
        if (n == null) {
            return no(1);
        }
        if (n.issue != NONE) {
            return no(6);
        }
        if (key < 0 || key > 39 || value == NO_LAW || !day(from)) {
            return no(2);
        }
        if (n.laws.size() == 4) {
            return no(3);
        }
        act();
        n.laws.add(new int[] {key, value, from});
        return yes(n.laws.size());
    }

    int corrects(int notice, int other) {
        Notice n = at(notice);
        if (n == null || at(other) == null) {
            return no(1) + 1;
        }
        if (n.issue != NONE) {
            return no(6) + 1;
        }
        if (other >= notice) {
            return no(2) + 1;
        }
        act();
        n.corrected = other;
        return yes(1);
    }

    int renames(int notice, long from, long to) {
        Notice n = at(notice);
        if (n == null) {
            return no(1) + 1;
        }
        if (n.issue != NONE) {
            return no(6) + 1;
        }
        if (!word(from) || !word(to) || from == to) {
            return no(2) + 1;
        }
        act();
        n.from = from;
        n.to = to;
        return yes(1);
    }

    int strikes(int notice, long word) {
        Notice n = at(notice);
        if (n == null) {
            return no(1) + 1;
        }
        if (n.issue != NONE) {
            return no(6) + 1;
        }
        if (!word(word)) {
            return no(2) + 1;
        }
        act();
        n.struck = word;
        return yes(1);
    }

    /** Lays each on any page that has one already, or on a new one: every way is tried. */
    private static boolean goesIn(List<Integer> lines, int i, int[] pages, int used, int length) {
        if (i == lines.size()) {
            return true;
        }
        for (int p = 0; p < pages.length && p <= used; p++) {
            if (pages[p] + lines.get(i) <= length) {
                pages[p] += lines.get(i);
                boolean good = goesIn(lines, i + 1, pages, Math.max(used, p + 1), length);
                pages[p] -= lines.get(i);
                if (good) {
                    return true;
                }
            }
        }
        return false;
    }

    private boolean fits(List<Integer> numbers, int pages, int length) {
        List<Integer> lines = new ArrayList<>();
        int sum = 0;
        for (int n : numbers) {
            lines.add(now.notices.get(n).lines);
            sum += now.notices.get(n).lines;
        }
        lines.sort(Comparator.reverseOrder());
        return numbers.size() <= 12 && sum <= pages * length && goesIn(lines, 0, new int[pages], 0, length);
    }

    int issue(int d, int next, int pages, int length) {
        int latest = issues.isEmpty() ? -1 : issues.get(issues.size() - 1)[0];
        if (!day(d) || d <= latest || next <= d || next > 10000 || pages < 1 || pages > 8 || length < 10 || length > 60) {
            return no(2);
        }
        if (issues.size() == 40) {
            return no(3);
        }
        List<Integer> in = new ArrayList<>();
        List<Integer> others = new ArrayList<>();
        for (int i = 0; i < now.notices.size(); i++) {
            Notice n = now.notices.get(i);
            if (n.issue == NONE) {
                (n.due < next ? in : others).add(i);
            }
        }
        if (!fits(in, pages, length)) {
            return no(5);
        }
        others.sort(Comparator.comparingInt(i -> now.notices.get(i).due));
        for (int i : others) {
            List<Integer> more = new ArrayList<>(in);
            more.add(i);
            if (fits(more, pages, length)) {
                in = more;
            }
        }
        in.sort(Comparator.naturalOrder());
        int late = 0;
        for (int i : in) {
            Notice n = now.notices.get(i);
            late += n.due < d ? 1 : 0;
            long[] values = new long[fields(n.form)];
            for (int f = 0; f < values.length; f++) {
                values[f] = valueNow(n, f);
            }
            n.printedValues = values;
            n.issue = issues.size();
            n.day = d;
        }
        int need = 0;
        while (!fits(in, need, length)) {
            need++;
        }
        issues.add(new int[] {d, in.size(), need, late, count(4)});
        issueNotices.add(in);
        before.clear();
        return yes(issues.size() - 1);
    }

    int issued(int issue, int what) {
        return issue < 0 || issue >= issues.size() || what < 0 || what > 4 ? NONE : issues.get(issue)[what];
    }

    int printed(int issue, int i) {
        if (issue < 0 || issue >= issues.size() || i < 0 || i >= issueNotices.get(issue).size()) {
            return NONE;
        }
        return issueNotices.get(issue).get(i);
    }

    private boolean known(Notice n, int d) {
        return n.issue != NONE && n.day <= d;
    }

    private boolean isVoidNow(int notice, int d) {
        for (int i = 0; i < now.notices.size(); i++) {
            Notice n = now.notices.get(i);
            if (n.corrected == notice && known(n, d) && !isVoidNow(i, d)) {
                return true;
            }
        }
        return false;
    }

    /** Of all laws that hold: from, notice, place, value. */
    private List<int[]> lawsOf(int key, int d) {
        List<int[]> all = new ArrayList<>();
        for (int i = 0; i < now.notices.size(); i++) {
            Notice n = now.notices.get(i);
            if (known(n, d) && !isVoidNow(i, d)) {
                for (int j = 0; j < n.laws.size(); j++) {
                    if (n.laws.get(j)[0] == key) {
                        all.add(new int[] {n.laws.get(j)[2], i, j, n.laws.get(j)[1]});
                    }
                }
            }
        }
        all.sort(Comparator.<int[]>comparingInt(l -> l[0]).thenComparingInt(l -> l[1]).thenComparingInt(l -> l[2]));
        return all;
    }

    private static int[] latest(List<int[]> laws, int d) {
        int[] best = null;
        for (int[] l : laws) {
            if (l[0] <= d) {
                best = l;
            }
        }
        return best;
    }

    int law(int key, int d, int known) {
        int[] l = day(d) && day(known) ? latest(lawsOf(key, known), d) : null;
        return l == null ? NO_LAW : l[3];
    }

    int source(int key, int d, int known) {
        int[] l = day(d) && day(known) ? latest(lawsOf(key, known), d) : null;
        return l == null ? NONE : l[1];
    }

    int isVoid(int notice, int known) {
        Notice n = at(notice);
        return n == null || !day(known) || !known(n, known) ? NONE : isVoidNow(notice, known) ? 1 : 0;
    }

    int changes(int key, int known) {
        if (key < 0 || key > 39 || !day(known)) {
            return NONE;
        }
        List<int[]> laws = lawsOf(key, known);
        int n = 0;
        int last = NO_LAW;
        for (int d = 0; d < 10000; d++) {
            int[] l = latest(laws, d);
            int v = l == null ? NO_LAW : l[3];
            n += v != last ? 1 : 0;
            last = v;
        }
        return n;
    }

    private boolean ledTo(long from, long to, int known, Set<Long> seen) {
        for (Notice n : now.notices) {
            if (known(n, known) && n.from == from && n.from > 0
                    && (n.to == to || seen.add(n.to) && ledTo(n.to, to, known, seen))) {
                return true;
            }
        }
        return false;
    }

    int find(long word, int known) {
        if (!word(word) || !day(known)) {
            return NONE;
        }
        found = new ArrayList<>();
        for (int i = 0; i < now.notices.size(); i++) {
            Notice n = now.notices.get(i);
            boolean has = false;
            for (int f = 0; f < fields(n.form); f++) {
                if (now.forms.get(n.form).get(f).kind == 2 && n.told[f] != null) {
                    has |= n.told[f] == word || ledTo(n.told[f], word, known, new HashSet<>());
                }
            }
            if (has && known(n, known)) {
                found.add(i);
            }
        }
        return found.size();
    }

    int found(int i) {
        return i < 0 || i >= found.size() ? NONE : found.get(i);
    }

    int struck(long word, int known) {
        if (!word(word) || !day(known)) {
            return NONE;
        }
        for (Notice n : now.notices) {
            if (known(n, known) && n.struck == word) {
                return 1;
            }
        }
        return 0;
    }

    int undo() {
        if (before.isEmpty()) {
            return 0;
        }
        now = before.remove(before.size() - 1);
        return 1;
    }

    int count(int what) {
        int waiting = 0;
        for (Notice n : now.notices) {
            waiting += n.issue == NONE ? 1 : 0;
        }
        int[] all = {now.feasts.size(), now.forms.size(), now.notices.size(), issues.size(), waiting, before.size(), tape.size()};
        return what < 0 || what > 6 ? NONE : all[what];
    }

    int trouble() {
        return trouble;
    }
}
