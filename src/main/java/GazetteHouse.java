import java.util.Arrays;

/**
 * A gazette's house: forms, notices read by them, feasts, issues, and what is held on any day as
 * known on any other.
 *
 * The class here checks what a call is given and keeps its TROUBLE; the classes inside do the work
 * and are handed only what has been checked.
 */
public final class GazetteHouse {
    public static final int NONE = -1;
    public static final int NO_LAW = Integer.MIN_VALUE;

    private static final int LAST_DAY = 9_999;
    private static final int BEYOND = 10_000;
    private static final int MOST_FEASTS = 60;
    private static final int MOST_FORMS = 12;
    private static final int MOST_FIELDS = 8;
    private static final int MOST_WORDS = 4;
    private static final int MOST_NOTICES = 60;
    private static final int MOST_LAWS = 4;
    private static final int MOST_ISSUES = 40;
    private static final int MOST_PRINTED = 12;
    private static final int MOST_LINES = 60;
    private static final int LEAST_PAGE = 10;
    private static final int MOST_PAGES = 8;
    private static final int MOST_ACTS = 100;
    private static final int KEYS = 40;
    private static final int TAPE = 400;
    private static final int FED_AT_ONCE = 20;

    private static final int NO_SUCH = 1;
    private static final int BAD_NUMBER = 2;
    private static final int NO_ROOM = 3;
    private static final int FAULTY = 4;
    private static final int MUST_NOT_FIT = 5;
    private static final int IS_PRINTED = 6;

    private static final int SHAPE = 1;
    private static final int NO_NAME = 2;
    private static final int TWICE = 3;
    private static final int NOT_ITS_KIND = 4;
    private static final int MANY = 5;
    private static final int LACKS = 6;

    private static final int NUM = 0;
    private static final int DAY = 1;
    private static final int NAME = 2;
    private static final int ONE = 3;
    private static final int SPAN_DAYS = 4;
    private static final int SPAN_WORK = 5;

    // Kinds of tokens; a sign's kind is its byte, and all bytes of signs are greater than these.
    private static final int END = 0;
    private static final int WORD = 1;
    private static final int NUMBER = 2;
    private static final int DOTS = 3;
    private static final int NO_TOKEN = 4;

    private static final int LETTERS = 8;
    private static final int DIGITS = 4;
    private static final int LETTER_BITS = 5;

    // The words of the language of forms, as numbers.
    private static final long W_NUM = 14L << 10 | 21L << 5 | 13L;
    private static final long W_DAY = 4L << 10 | 1L << 5 | 25L;
    private static final long W_WORD = 23L << 15 | 15L << 10 | 18L << 5 | 4L;
    private static final long W_ONE = 15L << 10 | 14L << 5 | 5L;
    private static final long W_SPAN = 19L << 15 | 16L << 10 | 1L << 5 | 14L;
    private static final long W_DAYS = 4L << 15 | 1L << 10 | 25L << 5 | 19L;
    private static final long W_WORK = 23L << 15 | 15L << 10 | 18L << 5 | 11L;

    private static final int ACT_FEAST = 0;
    private static final int ACT_FORM = 1;
    private static final int ACT_NOTICE = 2;
    private static final int ACT_SAYS = 3;
    private static final int ACT_CORRECTS = 4;
    private static final int ACT_RENAMES = 5;
    private static final int ACT_STRIKES = 6;

    private final Calendar calendar;
    private final Text text;
    private final Form[] forms;
    private int formCount;
    private final Archive archive;
    private final Issue[] issues;
    private int issueCount;
    private int latestDay;
    private final Pages paper;
    private final Acts acts;
    private int trouble;

    public GazetteHouse() {
        calendar = new Calendar();
        text = new Text();
        // One form more than there may be: a text is read before it is known whether there is room.
        forms = new Form[MOST_FORMS + 1];
        for (int i = 0; i < forms.length; i++) {
            forms[i] = new Form();
        }
        archive = new Archive();
        issues = new Issue[MOST_ISSUES];
        for (int i = 0; i < issues.length; i++) {
            issues[i] = new Issue();
        }
        latestDay = NONE;
        paper = new Pages();
        acts = new Acts();
    }

    // ---- days

    public boolean feast(int day, boolean on) {
        if (!isDay(day)) {
            return refusal(BAD_NUMBER);
        }
        if (calendar.isFeast(day) == on) {
            return acceptance();
        }
        if (on && calendar.feastCount >= MOST_FEASTS) {
            return refusal(NO_ROOM);
        }
        calendar.setFeast(day, on);
        acts.push(ACT_FEAST, day, on ? 1 : 0, 0);
        return acceptance();
    }

    public int working(int day) {
        if (!isDay(day)) {
            return refused(BAD_NUMBER);
        }
        return accepted(calendar.isWorking(day) ? 1 : 0);
    }

    public int after(int day, int n, boolean work) {
        if (!isDay(day) || n < 0 || n > LAST_DAY) {
            return refused(BAD_NUMBER);
        }
        return accepted(calendar.behind(day, n, work));
    }

    // ---- texts

    public int feed(int a, int b, int c, int d, int e) {
        if (text.fed + FED_AT_ONCE > TAPE) {
            return NONE;
        }
        text.put(a);
        text.put(b);
        text.put(c);
        text.put(d);
        text.put(e);
        return text.fed;
    }

    public int form(int n) {
        if (!text.holds(n)) {
            return refused(BAD_NUMBER);
        }
        text.start(n);
        boolean good = forms[formCount].readAll(text);
        text.fed = 0;
        if (!good) {
            return refused(FAULTY);
        }
        if (formCount >= MOST_FORMS) {
            return refused(NO_ROOM);
        }
        acts.push(ACT_FORM, formCount, 0, 0);
        formCount++;
        return accepted(formCount - 1);
    }

    public int notice(int form, int n, int lines, int due) {
        Form by = formAt(form);
        if (by == null) {
            return refused(NO_SUCH);
        }
        if (!text.holds(n) || lines < 1 || lines > MOST_LINES || !isDay(due)) {
            return refused(BAD_NUMBER);
        }
        Notice fresh = archive.fresh();
        fresh.begin(form, lines, due);
        text.start(n);
        boolean good = by.readNotice(text, fresh.values);
        text.fed = 0;
        if (!good) {
            return refused(FAULTY);
        }
        if (archive.size >= MOST_NOTICES) {
            return refused(NO_ROOM);
        }
        acts.push(ACT_NOTICE, archive.size, 0, 0);
        archive.size++;
        return accepted(archive.size - 1);
    }

    public int fault() {
        return text.fault;
    }

    public int where() {
        return trouble == FAULTY ? text.faultPlace : NONE;
    }

    public int lacks() {
        return text.fault == LACKS ? text.lacking : NONE;
    }

    public int field(int form, int i, int what) {
        Form of = formAt(form);
        if (of == null || i < 0 || i >= of.size) {
            return NONE;
        }
        Field it = of.parts[i];
        switch (what) {
            case 0: return it.kind;
            case 1: return it.mayLack ? 1 : 0;
            case 2: return it.kind == ONE ? it.wordCount : it.first;
            case 3: return it.second;
            default: return NONE;
        }
    }

    public int fields(int form) {
        Form of = formAt(form);
        return of == null ? NONE : of.size;
    }

    public long value(int notice, int i) {
        Notice it = archive.at(notice);
        if (it == null) {
            return NONE;
        }
        Form by = formAt(it.form);
        if (by == null || i < 0 || i >= by.size) {
            return NONE;
        }
        // A printed notice keeps the days that it was printed with, whatever becomes a feast later.
        if (it.waits()) {
            by.reckon(it.values, calendar);
        }
        return it.values[i];
    }

    public int about(int notice, int what) {
        Notice it = archive.at(notice);
        if (it == null) {
            return NONE;
        }
        switch (what) {
            case 0: return it.form;
            case 1: return it.lines;
            case 2: return it.due;
            case 3: return it.issue;
            case 4: return it.lawCount;
            case 5: return it.corrected;
            case 6: return it.newName != 0 ? 1 : 0;
            case 7: return it.struckWord != 0 ? 1 : 0;
            default: return NONE;
        }
    }

    // ---- what a notice that waits says

    public int says(int notice, int key, int value, int from) {
        Notice it = archive.at(notice);
        if (it == null) {
            return refused(NO_SUCH);
        }
        if (!it.waits()) {
            return refused(IS_PRINTED);
        }
        if (!isKey(key) || value == NO_LAW || !isDay(from)) {
            return refused(BAD_NUMBER);
        }
        if (it.lawCount >= MOST_LAWS) {
            return refused(NO_ROOM);
        }
        it.addLaw(key, value, from);
        acts.push(ACT_SAYS, notice, 0, 0);
        return accepted(it.lawCount);
    }

    public boolean corrects(int notice, int other) {
        Notice it = archive.at(notice);
        if (it == null || archive.at(other) == null) {
            return refusal(NO_SUCH);
        }
        if (!it.waits()) {
            return refusal(IS_PRINTED);
        }
        if (other >= notice) {
            return refusal(BAD_NUMBER);
        }
        acts.push(ACT_CORRECTS, notice, it.corrected, 0);
        it.corrected = other;
        return acceptance();
    }

    public boolean renames(int notice, long from, long to) {
        Notice it = archive.at(notice);
        if (it == null) {
            return refusal(NO_SUCH);
        }
        if (!it.waits()) {
            return refusal(IS_PRINTED);
        }
        if (!isWord(from) || !isWord(to) || from == to) {
            return refusal(BAD_NUMBER);
        }
        acts.push(ACT_RENAMES, notice, it.oldName, it.newName);
        it.oldName = from;
        it.newName = to;
        return acceptance();
    }

    public boolean strikes(int notice, long word) {
        Notice it = archive.at(notice);
        if (it == null) {
            return refusal(NO_SUCH);
        }
        if (!it.waits()) {
            return refusal(IS_PRINTED);
        }
        if (!isWord(word)) {
            return refusal(BAD_NUMBER);
        }
        acts.push(ACT_STRIKES, notice, it.struckWord, 0);
        it.struckWord = word;
        return acceptance();
    }

    // ---- issues

    public int issue(int day, int next, int pages, int lines) {
        if (!isDay(day) || day <= latestDay || next <= day || next > BEYOND) {
            return refused(BAD_NUMBER);
        }
        if (pages < 1 || pages > MOST_PAGES || lines < LEAST_PAGE || lines > MOST_LINES) {
            return refused(BAD_NUMBER);
        }
        if (issueCount >= MOST_ISSUES) {
            return refused(NO_ROOM);
        }
        paper.start(pages, lines);
        if (!archive.takeMust(paper, next)) {
            return refused(MUST_NOT_FIT);
        }
        archive.takeOthers(paper, next);
        print(day);
        return accepted(issueCount - 1);
    }

    public int issued(int issue, int what) {
        if (issue < 0 || issue >= issueCount) {
            return NONE;
        }
        Issue it = issues[issue];
        switch (what) {
            case 0: return it.day;
            case 1: return it.size;
            case 2: return it.pages;
            case 3: return it.late;
            case 4: return it.waitedOn;
            default: return NONE;
        }
    }

    public int printed(int issue, int i) {
        if (issue < 0 || issue >= issueCount) {
            return NONE;
        }
        Issue it = issues[issue];
        return i < 0 || i >= it.size ? NONE : it.numbers[i];
    }

    // ---- what holds

    public int law(int key, int day, int known) {
        if (!isKey(key) || !isDay(day) || !isDay(known)) {
            return NO_LAW;
        }
        archive.markVoid(known);
        return archive.lawValue(archive.lawPlace(key, day, known));
    }

    public int source(int key, int day, int known) {
        if (!isKey(key) || !isDay(day) || !isDay(known)) {
            return NONE;
        }
        archive.markVoid(known);
        int place = archive.lawPlace(key, day, known);
        return place == NONE ? NONE : place / MOST_LAWS;
    }

    public int isVoid(int notice, int known) {
        Notice it = archive.at(notice);
        if (it == null || !isDay(known) || !it.isKnown(known)) {
            return NONE;
        }
        archive.markVoid(known);
        return it.isVoid ? 1 : 0;
    }

    public int changes(int key, int known) {
        if (!isKey(key) || !isDay(known)) {
            return NONE;
        }
        archive.markVoid(known);
        return archive.countChanges(key, known);
    }

    public int find(long word, int known) {
        if (!isWord(word) || !isDay(known)) {
            return NONE;
        }
        archive.gatherNames(word, known);
        archive.search(forms, known);
        return archive.hitCount;
    }

    public int found(int i) {
        return i < 0 || i >= archive.hitCount ? NONE : archive.hits[i];
    }

    public int struck(long word, int known) {
        if (!isWord(word) || !isDay(known)) {
            return NONE;
        }
        return archive.isStruck(word, known) ? 1 : 0;
    }

    public int undo() {
        if (acts.size == 0) {
            return 0;
        }
        acts.pop();
        takeBack();
        return 1;
    }

    public int count(int what) {
        switch (what) {
            case 0: return calendar.feastCount;
            case 1: return formCount;
            case 2: return archive.size;
            case 3: return issueCount;
            case 4: return archive.countWaiting();
            case 5: return acts.size;
            case 6: return text.fed;
            default: return NONE;
        }
    }

    public int trouble() {
        return trouble;
    }

    // ---- help for the calls

    private int refused(int why) {
        trouble = why;
        return NONE;
    }

    private boolean refusal(int why) {
        trouble = why;
        return false;
    }

    private int accepted(int answer) {
        trouble = 0;
        return answer;
    }

    private boolean acceptance() {
        trouble = 0;
        return true;
    }

    private static boolean isDay(int day) {
        return day >= 0 && day <= LAST_DAY;
    }

    private static boolean isKey(int key) {
        return key >= 0 && key < KEYS;
    }

    private static boolean isWord(long word) {
        if (word <= 0 || word >= 1L << LETTERS * LETTER_BITS) {
            return false;
        }
        long rest = word;
        for (int i = 0; i < LETTERS && rest > 0; i++) {
            long letter = rest & 31;
            if (letter < 1 || letter > 26) {
                return false;
            }
            rest >>= LETTER_BITS;
        }
        return true;
    }

    private Form formAt(int number) {
        return number < 0 || number >= formCount ? null : forms[number];
    }

    /** What the paper has taken becomes the next issue; from here on nothing can refuse it. */
    private void print(int day) {
        Issue fresh = issues[issueCount];
        fresh.begin(day, paper.pagesNeeded());
        for (int i = 0; i < paper.size; i++) {
            Notice it = archive.at(paper.numbers[i]);
            Form by = it == null ? null : formAt(it.form);
            if (by != null) {
                by.reckon(it.values, calendar);
                it.print(issueCount, day);
            }
        }
        archive.list(issueCount, fresh);
        fresh.waitedOn = archive.countWaiting();
        issueCount++;
        latestDay = day;
        acts.clear();
    }

    /** Acts are taken back in the opposite order, so each finds the state that it left. */
    private void takeBack() {
        if (acts.kind == ACT_FEAST) {
            calendar.setFeast(acts.which, acts.before == 0);
        } else if (acts.kind == ACT_FORM) {
            formCount = acts.which;
        } else if (acts.kind == ACT_NOTICE) {
            archive.size = acts.which;
        } else {
            takeBackSaying(archive.at(acts.which));
        }
    }

    private void takeBackSaying(Notice it) {
        if (it == null) {
            return;
        }
        if (acts.kind == ACT_SAYS) {
            it.lawCount--;
        } else if (acts.kind == ACT_CORRECTS) {
            it.corrected = (int) acts.before;
        } else if (acts.kind == ACT_RENAMES) {
            it.oldName = acts.before;
            it.newName = acts.alsoBefore;
        } else if (acts.kind == ACT_STRIKES) {
            it.struckWord = acts.before;
        }
    }

    /** The feasts, and days counted past them. */
    private static final class Calendar {
        private final long[] feasts = new long[(LAST_DAY >> 6) + 1];
        private int feastCount;

        boolean isFeast(int day) {
            int cell = day >> 6;
            return cell >= 0 && cell < feasts.length && (feasts[cell] >>> (day & 63) & 1L) != 0;
        }

        void setFeast(int day, boolean on) {
            if (!isDay(day) || isFeast(day) == on) {
                return;
            }
            feasts[day >> 6] ^= 1L << (day & 63);
            feastCount += on ? 1 : -1;
        }

        boolean isWorking(int day) {
            return day % 7 < 5 && !isFeast(day);
        }

        int behind(int day, int n, boolean work) {
            if (!work) {
                return workingFrom(Math.min(day + n, BEYOND));
            }
            int at = day;
            for (int left = n; left > 0 && at < BEYOND; left--) {
                at = workingFrom(at + 1);
            }
            return at;
        }

        /** The day itself if it is a working one, or the next that is; BEYOND without one. */
        private int workingFrom(int day) {
            int at = day;
            while (at < BEYOND && !isWorking(at)) {
                at++;
            }
            return at;
        }
    }

    /** The tape, the token that the reading of it stands at, and the fault that ended it. */
    private static final class Text {
        private final byte[] tape = new byte[TAPE];
        private int fed;
        private int end;
        private int at;
        private int kind;
        private int place;
        private int number;
        private long word;
        private int fault;
        private int faultPlace;
        private int lacking;

        void put(int bytes) {
            for (int shift = 24; shift >= 0 && fed < TAPE; shift -= 8) {
                tape[fed] = (byte) (bytes >> shift);
                fed++;
            }
        }

        boolean holds(int n) {
            return n >= 0 && n <= fed;
        }

        void start(int n) {
            end = Math.max(0, Math.min(n, fed));
            at = 0;
            fault = 0;
            step();
        }

        /** Each check asks this only when it fails, so the first fault from the left is kept. */
        boolean fail(int what) {
            fault = what;
            faultPlace = place;
            return false;
        }

        boolean take(int wanted) {
            if (kind != wanted) {
                return fail(SHAPE);
            }
            step();
            return true;
        }

        void step() {
            while (at < end && (tape[at] == ' ' || tape[at] == '\n')) {
                at++;
            }
            place = at;
            word = readRun('a', 'z', 1 << LETTER_BITS, 'a' - 1);
            if (at > place) {
                kind = at - place <= LETTERS ? WORD : NO_TOKEN;
                return;
            }
            number = (int) readRun('0', '9', 10, '0');
            if (at > place) {
                kind = at - place <= DIGITS ? NUMBER : NO_TOKEN;
                return;
            }
            kind = readSign();
        }

        /** All letters or digits that stand together; too many of them make no token, not more. */
        private long readRun(int least, int greatest, int base, int zero) {
            long read = 0;
            while (at < end && tape[at] >= least && tape[at] <= greatest) {
                read = read * base + tape[at] - zero;
                at++;
            }
            return read;
        }

        private int readSign() {
            if (at >= end) {
                return END;
            }
            int sign = tape[at];
            at++;
            if (sign == ':' || sign == ';' || sign == '?' || sign == '/' || sign == '=') {
                return sign;
            }
            if (sign == '.' && at < end && tape[at] == '.') {
                at++;
                return DOTS;
            }
            return NO_TOKEN;
        }
    }

    /** A field of a form: first and second are what field() tells of its numbers. */
    private static final class Field {
        private long name;
        private int kind;
        private boolean mayLack;
        private int first;
        private int second;
        private final long[] words = new long[MOST_WORDS];
        private int wordCount;

        void begin(long called) {
            name = called;
            kind = NUM;
            mayLack = false;
            first = 0;
            second = 0;
            wordCount = 0;
        }

        boolean isSpan() {
            return kind == SPAN_DAYS || kind == SPAN_WORK;
        }

        boolean hasDay() {
            return kind == DAY || isSpan();
        }

        int placeOf(long word) {
            for (int i = 0; i < wordCount; i++) {
                if (words[i] == word) {
                    return i;
                }
            }
            return NONE;
        }

        boolean readLimits(Text t) {
            first = t.number;
            if (!t.take(NUMBER) || !t.take(DOTS)) {
                return false;
            }
            second = t.number;
            if (t.kind == NUMBER && second < first) {
                return t.fail(NOT_ITS_KIND);
            }
            return t.take(NUMBER);
        }

        boolean readWords(Text t) {
            for (int i = 0; i <= MOST_WORDS; i++) {
                if (!readOneWord(t)) {
                    return false;
                }
                if (t.kind != '/') {
                    return true;
                }
                t.step();
            }
            return false;
        }

        private boolean readOneWord(Text t) {
            if (t.kind != WORD) {
                return t.fail(SHAPE);
            }
            if (placeOf(t.word) != NONE) {
                return t.fail(TWICE);
            }
            if (wordCount >= MOST_WORDS) {
                return t.fail(MANY);
            }
            words[wordCount] = t.word;
            wordCount++;
            t.step();
            return true;
        }

        /** The value that the token is for this field; NONE if it is none of its kind. */
        long valueOf(Text t) {
            if (kind == NUM) {
                return t.kind == NUMBER && t.number >= first && t.number <= second ? t.number : NONE;
            }
            if (kind == DAY) {
                return t.kind == NUMBER ? t.number : NONE;
            }
            if (t.kind != WORD) {
                return NONE;
            }
            if (kind == NAME) {
                return t.word;
            }
            return kind == ONE ? placeOf(t.word) : NONE;
        }
    }

    /** A form, and the reading of texts as one and by one. */
    private static final class Form {
        private final Field[] parts = new Field[MOST_FIELDS];
        private int size;

        Form() {
            for (int i = 0; i < parts.length; i++) {
                parts[i] = new Field();
            }
        }

        int placeOf(long name) {
            for (int i = 0; i < size; i++) {
                if (parts[i].name == name) {
                    return i;
                }
            }
            return NONE;
        }

        boolean readAll(Text t) {
            size = 0;
            for (int i = 0; i <= MOST_FIELDS; i++) {
                if (!readName(t) || !readKind(t, parts[size])) {
                    return false;
                }
                size++;
                if (t.kind == END) {
                    return true;
                }
                if (!t.take(';')) {
                    return false;
                }
            }
            return false;
        }

        /** Refuses the ninth, so that behind it there is a field at the size that was reached. */
        private boolean readName(Text t) {
            if (t.kind != WORD) {
                return t.fail(SHAPE);
            }
            if (placeOf(t.word) != NONE) {
                return t.fail(TWICE);
            }
            if (size >= MOST_FIELDS) {
                return t.fail(MANY);
            }
            parts[size].begin(t.word);
            t.step();
            return t.take(':');
        }

        private boolean readKind(Text t, Field fresh) {
            long word = t.word;
            if (t.kind != WORD || !isKind(word)) {
                return t.fail(SHAPE);
            }
            t.step();
            if (word == W_SPAN) {
                return readSpan(t, fresh);
            }
            fresh.kind = word == W_NUM ? NUM : word == W_DAY ? DAY : word == W_WORD ? NAME : ONE;
            if (fresh.kind == NUM && !fresh.readLimits(t) || fresh.kind == ONE && !fresh.readWords(t)) {
                return false;
            }
            if (t.kind == '?') {
                fresh.mayLack = true;
                t.step();
            }
            return true;
        }

        private static boolean isKind(long word) {
            return word == W_NUM || word == W_DAY || word == W_WORD || word == W_ONE || word == W_SPAN;
        }

        private boolean readSpan(Text t, Field fresh) {
            fresh.first = t.number;
            if (!t.take(NUMBER)) {
                return false;
            }
            if (t.kind != WORD || t.word != W_DAYS && t.word != W_WORK) {
                return t.fail(SHAPE);
            }
            fresh.kind = t.word == W_DAYS ? SPAN_DAYS : SPAN_WORK;
            t.step();
            if (t.kind != WORD) {
                return t.fail(SHAPE);
            }
            // The field being read is not counted yet, so only those ahead of it are looked at.
            int base = placeOf(t.word);
            if (base == NONE || !parts[base].hasDay()) {
                return t.fail(NO_NAME);
            }
            fresh.second = base;
            t.step();
            return true;
        }

        /** Every value must be NONE at the start: it tells which fields have had an entry. */
        boolean readNotice(Text t, long[] values) {
            // No text has more entries than fields: the next one's name would be no name or twice.
            for (int i = 0; i <= MOST_FIELDS; i++) {
                if (!readEntry(t, values)) {
                    return false;
                }
                if (t.kind == END) {
                    return isWhole(t, values);
                }
                if (!t.take(';')) {
                    return false;
                }
            }
            return false;
        }

        private boolean readEntry(Text t, long[] values) {
            if (t.kind != WORD) {
                return t.fail(SHAPE);
            }
            int which = placeOf(t.word);
            if (which == NONE || parts[which].isSpan()) {
                return t.fail(NO_NAME);
            }
            if (values[which] != NONE) {
                return t.fail(TWICE);
            }
            t.step();
            if (!t.take('=')) {
                return false;
            }
            if (t.kind != WORD && t.kind != NUMBER) {
                return t.fail(SHAPE);
            }
            values[which] = parts[which].valueOf(t);
            if (values[which] == NONE) {
                return t.fail(NOT_ITS_KIND);
            }
            t.step();
            return true;
        }

        private boolean isWhole(Text t, long[] values) {
            for (int i = 0; i < size; i++) {
                if (values[i] == NONE && !parts[i].mayLack && !parts[i].isSpan()) {
                    t.lacking = i;
                    return t.fail(LACKS);
                }
            }
            return true;
        }

        /** A span's base stands ahead of it, so one pass from the left reckons them all. */
        void reckon(long[] values, Calendar calendar) {
            for (int i = 0; i < size; i++) {
                Field it = parts[i];
                if (it.isSpan()) {
                    int base = (int) values[it.second];
                    values[i] = base == NONE ? NONE
                            : calendar.behind(base, it.first, it.kind == SPAN_WORK);
                }
            }
        }
    }

    /** A notice; a name or word of 0 is none, and its laws stand in the order they came in. */
    private static final class Notice {
        private int form;
        private int lines;
        private int due;
        private int issue;
        private int printedOn;
        private final long[] values = new long[MOST_FIELDS];
        private int lawCount;
        private final int[] lawKeys = new int[MOST_LAWS];
        private final int[] lawValues = new int[MOST_LAWS];
        private final int[] lawDays = new int[MOST_LAWS];
        private int corrected;
        private long oldName;
        private long newName;
        private long struckWord;
        private boolean isVoid;

        void begin(int by, int howLong, int dueOn) {
            form = by;
            lines = howLong;
            due = dueOn;
            issue = NONE;
            printedOn = NONE;
            Arrays.fill(values, NONE);
            lawCount = 0;
            corrected = NONE;
            oldName = 0;
            newName = 0;
            struckWord = 0;
            isVoid = false;
        }

        boolean waits() {
            return issue == NONE;
        }

        boolean isKnown(int day) {
            return issue != NONE && printedOn <= day;
        }

        void addLaw(int key, int value, int from) {
            if (lawCount < MOST_LAWS) {
                lawKeys[lawCount] = key;
                lawValues[lawCount] = value;
                lawDays[lawCount] = from;
                lawCount++;
            }
        }

        void print(int number, int day) {
            issue = number;
            printedOn = day;
        }
    }

    /** An issue as it was when it was printed. */
    private static final class Issue {
        private int day;
        private int pages;
        private int late;
        private int waitedOn;
        private int size;
        private final int[] numbers = new int[MOST_PRINTED];

        void begin(int printedOn, int pagesNeeded) {
            day = printedOn;
            pages = pagesNeeded;
            late = 0;
            waitedOn = 0;
            size = 0;
        }

        void addNotice(int number, int due) {
            if (size < MOST_PRINTED) {
                numbers[size] = number;
                size++;
                late += due < day ? 1 : 0;
            }
        }
    }

    /**
     * The paper of an issue in the making: takes a notice if it goes in with all it has taken.
     *
     * For each set of notices it keeps the fewest pages and, of these ways, the least lines on the
     * page filled last, as one number. Whichever notice of a set is laid down last, the rest is
     * best laid down in just that way, so the least over all of them is exact.
     */
    private static final class Pages {
        private static final int FILL_BITS = 6;
        private static final int FILL = (1 << FILL_BITS) - 1;
        private final int[] best = new int[1 << MOST_PRINTED];
        private final int[] numbers = new int[MOST_PRINTED];
        private final int[] sizes = new int[MOST_PRINTED];
        private int size;
        private int total;
        private int mostPages;
        private int pageLines;

        void start(int pages, int lines) {
            mostPages = pages;
            pageLines = lines;
            size = 0;
            total = 0;
            // No page yet, taken as a full one: the first notice opens a page.
            best[0] = lines;
        }

        boolean take(int number, int lines) {
            if (size >= MOST_PRINTED || lines > pageLines || total + lines > mostPages * pageLines) {
                return false;
            }
            sizes[size] = lines;
            int bit = 1 << size;
            for (int set = bit; set < 2 * bit; set++) {
                best[set] = bestOf(set);
            }
            if (best[2 * bit - 1] >> FILL_BITS > mostPages) {
                return false;
            }
            numbers[size] = number;
            total += lines;
            size++;
            return true;
        }

        int pagesNeeded() {
            return best[(1 << size) - 1] >> FILL_BITS;
        }

        private int bestOf(int set) {
            int least = Integer.MAX_VALUE;
            for (int i = 0; i <= size && i < MOST_PRINTED; i++) {
                if ((set >> i & 1) != 0) {
                    least = Math.min(least, laidOn(best[set ^ 1 << i], sizes[i]));
                }
            }
            return least;
        }

        private int laidOn(int before, int lines) {
            if ((before & FILL) + lines <= pageLines) {
                return before + lines;
            }
            return ((before >> FILL_BITS) + 1 << FILL_BITS) + lines;
        }
    }

    /** All notices by number, and what is known of them on a day. */
    private static final class Archive {
        // One more than there may be: a text is read before it is known whether there is room.
        private final Notice[] notices = new Notice[MOST_NOTICES + 1];
        private int size;
        private final long[] names = new long[MOST_NOTICES + 1];
        private int nameCount;
        private final int[] hits = new int[MOST_NOTICES];
        private int hitCount;

        Archive() {
            for (int i = 0; i < notices.length; i++) {
                notices[i] = new Notice();
            }
        }

        Notice at(int number) {
            return number < 0 || number >= size ? null : notices[number];
        }

        Notice fresh() {
            return notices[Math.min(size, MOST_NOTICES)];
        }

        int countWaiting() {
            int waiting = 0;
            for (int i = 0; i < size; i++) {
                waiting += notices[i].waits() ? 1 : 0;
            }
            return waiting;
        }

        boolean takeMust(Pages paper, int next) {
            for (int i = 0; i < size; i++) {
                Notice it = notices[i];
                if (it.waits() && it.due < next && !paper.take(i, it.lines)) {
                    return false;
                }
            }
            return true;
        }

        void takeOthers(Pages paper, int next) {
            int last = NONE;
            for (int i = 0; i < size; i++) {
                last = nextOther(last, next);
                if (last == NONE) {
                    return;
                }
                paper.take(last, notices[last].lines);
            }
        }

        /** The one behind the last, by due day and then by number; NONE behind all of them. */
        private int nextOther(int last, int next) {
            int dueOfLast = last == NONE ? next - 1 : notices[last].due;
            int least = NONE;
            for (int i = 0; i < size; i++) {
                Notice it = notices[i];
                boolean isBehind = it.due > dueOfLast || it.due == dueOfLast && i > last;
                if (it.waits() && it.due >= next && isBehind
                        && (least == NONE || it.due < notices[least].due)) {
                    least = i;
                }
            }
            return least;
        }

        void list(int number, Issue issue) {
            for (int i = 0; i < size; i++) {
                if (notices[i].issue == number) {
                    issue.addNotice(i, notices[i].due);
                }
            }
        }

        /** One corrects only a lesser number, so from the greatest down each is settled in time. */
        void markVoid(int known) {
            for (int i = 0; i < size; i++) {
                notices[i].isVoid = false;
            }
            for (int i = size - 1; i >= 0; i--) {
                Notice it = notices[i];
                Notice other = at(it.corrected);
                if (other != null && it.isKnown(known) && !it.isVoid) {
                    other.isVoid = true;
                }
            }
        }

        /** Where the law stands that holds, as markVoid() left them; NONE without one. */
        int lawPlace(int key, int day, int known) {
            int place = NONE;
            int from = NONE;
            for (int i = 0; i < size; i++) {
                Notice it = notices[i];
                boolean holds = it.isKnown(known) && !it.isVoid;
                for (int j = 0; holds && j < it.lawCount; j++) {
                    if (it.lawKeys[j] == key && it.lawDays[j] <= day && it.lawDays[j] >= from) {
                        from = it.lawDays[j];
                        place = i * MOST_LAWS + j;
                    }
                }
            }
            return place;
        }

        int lawValue(int place) {
            Notice it = place < 0 ? null : at(place / MOST_LAWS);
            return it == null ? NO_LAW : it.lawValues[place % MOST_LAWS];
        }

        private int lawDay(int place) {
            Notice it = place < 0 ? null : at(place / MOST_LAWS);
            return it == null ? NONE : it.lawDays[place % MOST_LAWS];
        }

        /** A law can only change on a day from which one holds: goes down from one to the next. */
        int countChanges(int key, int known) {
            int changes = 0;
            int place = lawPlace(key, LAST_DAY, known);
            for (int i = 0; i < MOST_NOTICES * MOST_LAWS && place != NONE; i++) {
                int ahead = lawPlace(key, lawDay(place) - 1, known);
                changes += lawValue(ahead) != lawValue(place) ? 1 : 0;
                place = ahead;
            }
            return changes;
        }

        /** The word and all that it had been; every round but the last adds a name. */
        void gatherNames(long word, int known) {
            names[0] = word;
            nameCount = 1;
            boolean grown = true;
            for (int round = 0; round <= MOST_NOTICES && grown; round++) {
                grown = addOlderNames(known);
            }
        }

        private boolean addOlderNames(int known) {
            int before = nameCount;
            for (int i = 0; i < size && nameCount < names.length; i++) {
                Notice it = notices[i];
                if (it.newName != 0 && it.isKnown(known) && isName(it.newName) && !isName(it.oldName)) {
                    names[nameCount] = it.oldName;
                    nameCount++;
                }
            }
            return nameCount > before;
        }

        private boolean isName(long word) {
            for (int i = 0; i < nameCount; i++) {
                if (names[i] == word) {
                    return true;
                }
            }
            return false;
        }

        void search(Form[] forms, int known) {
            hitCount = 0;
            for (int i = 0; i < size && hitCount < hits.length; i++) {
                Notice it = notices[i];
                if (it.isKnown(known) && it.form < forms.length && hasName(it, forms[it.form])) {
                    hits[hitCount] = i;
                    hitCount++;
                }
            }
        }

        private boolean hasName(Notice it, Form by) {
            for (int i = 0; i < by.size; i++) {
                if (by.parts[i].kind == NAME && isName(it.values[i])) {
                    return true;
                }
            }
            return false;
        }

        boolean isStruck(long word, int known) {
            for (int i = 0; i < size; i++) {
                if (notices[i].struckWord == word && notices[i].isKnown(known)) {
                    return true;
                }
            }
            return false;
        }
    }

    /** The latest acts in a ring, each with what it put aside; pop() lays one out in the fields. */
    private static final class Acts {
        private final int[] kinds = new int[MOST_ACTS];
        private final int[] whichs = new int[MOST_ACTS];
        private final long[] befores = new long[MOST_ACTS];
        private final long[] alsoBefores = new long[MOST_ACTS];
        private int next;
        private int size;
        private int kind;
        private int which;
        private long before;
        private long alsoBefore;

        void push(int what, int on, long was, long alsoWas) {
            kinds[next] = what;
            whichs[next] = on;
            befores[next] = was;
            alsoBefores[next] = alsoWas;
            next = (next + 1) % MOST_ACTS;
            size = Math.min(size + 1, MOST_ACTS);
        }

        void pop() {
            next = (next + MOST_ACTS - 1) % MOST_ACTS;
            size--;
            kind = kinds[next];
            which = whichs[next];
            before = befores[next];
            alsoBefore = alsoBefores[next];
        }

        void clear() {
            next = 0;
            size = 0;
        }
    }
}
