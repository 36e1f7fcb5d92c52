/** Promises 11 to 18, what is told of forms and notices and what a notice says, sentence by sentence. */
final class NoticesSentences {
    private static final int MIN = Integer.MIN_VALUE;
    private static final int MAX = Integer.MAX_VALUE;
    private static final long X = Due.word("x");
    private static final long Y = Due.word("y");
    private static final long Z = Due.word("z");
    private static final long EIGHT = Due.word("zzzzzzzz");
    private static final String EIGHT_DAYS = "a:day;b:day;c:day;d:day;e:day;f:day;g:day;h:day";
    /** No words: a sign of 0 or of 27 to 31 in any place, none at all, more than eight, less than none. */
    private static final long[] NO_WORDS = {0, 27, 31, 32, 27 << 5 | 1, 31 << 10 | 1 << 5 | 1, 1 << 10 | 1, 1 << 10 | 1 << 5,
        EIGHT + 1, EIGHT - 26, EIGHT | 31L << 35, EIGHT & ~(31L << 20), EIGHT * 32 + 1, 1L << 40 | Due.word("aaaaaaaa"),
        -1, -X, MIN, Long.MIN_VALUE, Long.MAX_VALUE};
    private static final String[] WORDS = {"a", "z", "az", "za", "aaaaaaaa", "zzzzzzzz", "azazaza"};
    private final Due due;

    NoticesSentences(Due due) {
        this.due = due;
    }

    void all() {
        field();
        fieldNone();
        fields();
        value();
        valueOfSpans();
        valueNone();
        about();
        printedOnesSayNoMore();
        says();
        corrects();
        renames();
        strikes();
    }

    // ---- promises 11 and 12

    private void field() {
        due.promise(11, "Of FIELD i of a FORM, what 0 its KIND (0 num, 1 day, 2 word, 3 one, 4 span by days, 5 span by work),");
        GazetteHouse x = due.goodForm("a:num 3..9?;b:day;c:word?;d:one p/q/r?;e:span 5 days b;f:span 7 work e;g:num 0..0;h:one p");
        int[] kinds = {0, 1, 2, 3, 4, 5, 0, 3};
        for (int i = 0; i < 8; i++) {
            due.is("field(0, " + i + ", 0)", x.field(0, i, 0), kinds[i]);
        }

        due.promise(11, "1 whether it has a ?,");
        int[] marks = {1, 0, 1, 1, 0, 0, 0, 0};
        for (int i = 0; i < 8; i++) {
            due.is("field(0, " + i + ", 1)", x.field(0, i, 1), marks[i]);
        }

        due.promise(11, "2 of num the first, of span the NUMBER, of one how many WORDS (else 0),");
        int[] firsts = {3, 0, 0, 3, 5, 7, 0, 1};
        for (int i = 0; i < 8; i++) {
            due.is("field(0, " + i + ", 2)", x.field(0, i, 2), firsts[i]);
        }

        due.promise(11, "3 of num the second, of span which FIELD (else 0).");
        int[] seconds = {9, 0, 0, 0, 1, 4, 0, 0};
        for (int i = 0; i < 8; i++) {
            due.is("field(0, " + i + ", 3)", x.field(0, i, 3), seconds[i]);
        }
    }

    private void fieldNone() {
        due.promise(11, " NONE.");
        GazetteHouse x = due.goodForm("a:num 3..9;b:day");
        int[] none = {-1, 2, 8, 12, MIN, MAX};
        for (int number : none) {
            due.is("field(0, " + number + ", 0)", x.field(0, number, 0), -1);
            due.is("field(" + number + ", 0, 0)", x.field(number, 0, 0), -1);
        }
        due.is("field(1, 0, 0)", x.field(1, 0, 0), -1);
        int[] noWhat = {-1, 4, MIN, MAX};
        for (int what : noWhat) {
            due.is("field(0, 0, " + what + ")", x.field(0, 0, what), -1);
        }
        due.is("field(0, 1, 3)", x.field(0, 1, 3), 0);
        due.is("field(0, 7, 0), the last of eight", due.goodForm(EIGHT_DAYS).field(0, 7, 0), 1);
        due.is("field(0, 8, 0), the ninth", due.goodForm(EIGHT_DAYS).field(0, 8, 0), -1);
        Due.form(x, "a:day;b:day;c:dax");
        due.is("field(1, 0, 0) of a form with a fault", x.field(1, 0, 0), -1);
        x.undo();
        due.is("field(0, 0, 0) of a form taken back", x.field(0, 0, 0), -1);
    }

    private void fields() {
        due.promise(12, "How many FIELDS a FORM has; NONE.");
        GazetteHouse x = Due.house("a:day", EIGHT_DAYS, "a:day;b:span 1 days a");
        due.is("fields(0)", x.fields(0), 1);
        due.is("fields(1)", x.fields(1), 8);
        due.is("fields(2)", x.fields(2), 2);
        int[] none = {-1, 3, 12, MIN, MAX};
        for (int form : none) {
            due.is("fields(" + form + ")", x.fields(form), -1);
        }
        Due.form(x, "a:day;b:");
        due.is("fields(3) of a form with a fault", x.fields(3), -1);
        x.undo();
        due.is("fields(2) of a form taken back", x.fields(2), -1);
    }

    // ---- promises 13 and 14

    private void value() {
        due.promise(13, "VALUE of FIELD i of a NOTICE: of one which of its WORDS (from 0),");
        GazetteHouse x = Due.house("a:one p/q/r/s;b:num 0..9999?;c:day?;d:word?");
        String[] ones = {"p", "q", "r", "s"};
        for (int i = 0; i < 4; i++) {
            Due.notice(x, 0, "a=" + ones[i] + ";b=" + (9_999 - i) + ";c=" + i, 1, 0);
            due.is("value(" + i + ", 0)", x.value(i, 0), i);
            due.is("value(" + i + ", 1)", x.value(i, 1), 9_999 - i);
            due.is("value(" + i + ", 2)", x.value(i, 2), i);
        }

        due.promise(13, "of word the word as a number (of each letter, a being 1, b 2 .., the first highest, five bits),");
        GazetteHouse y = Due.house("a:word");
        Due.notice(y, 0, "a=a", 1, 0);
        due.is("value of a", y.value(0, 0), 1);
        Due.notice(y, 0, "a=z", 1, 0);
        due.is("value of z", y.value(1, 0), 26);
        Due.notice(y, 0, "a=ab", 1, 0);
        due.is("value of ab", y.value(2, 0), 34);
        Due.notice(y, 0, "a=aaaaaaaa", 1, 0);
        due.is("value of aaaaaaaa", y.value(3, 0), 0x842108421L);
        Due.notice(y, 0, "a=zzzzzzzz", 1, 0);
        due.is("value of zzzzzzzz, beyond an int", y.value(4, 0), 0xd6b5ad6b5aL);
        Due.notice(y, 0, "a=abcdefgh", 1, 0);
        due.is("value of abcdefgh", y.value(5, 0), Due.word("abcdefgh"));
    }

    private void valueOfSpans() {
        due.promise(13, "of a span its day.");
        GazetteHouse x = Due.house("a:day;b:span 2 days a;c:span 1 work b");
        Due.notice(x, 0, "a=3", 10, 0);
        due.is("value(0, 1)", x.value(0, 1), 7);
        due.is("value(0, 2)", x.value(0, 2), 8);
        x.feast(7, true);
        due.is("value(0, 1) of one that waits, past a feast told later", x.value(0, 1), 8);
        due.is("value(0, 2) of one that waits", x.value(0, 2), 9);
        x.undo();
        due.is("value(0, 2), the feast taken back", x.value(0, 2), 8);
        x.feast(8, true);
        x.issue(0, 1, 1, 10);
        x.feast(8, false);
        due.is("value(0, 1) as it was when it was printed", x.value(0, 1), 7);
        due.is("value(0, 2) as it was when it was printed", x.value(0, 2), 9);
        Due.notice(x, 0, "a=9999", 10, 0);
        due.is("value(1, 1) beyond the last day", x.value(1, 1), 10_000);
        due.is("value(1, 2) of a span of it", x.value(1, 2), 10_000);
    }

    private void valueNone() {
        due.promise(13, "NONE if it lacks, or there is none such.");
        GazetteHouse x = Due.house("a:num 0..9?;b:day?;c:word?;d:one p/q?;e:span 0 days b;f:span 0 work e;g:word");
        Due.notice(x, 0, "g=x", 1, 0);
        for (int i = 0; i < 6; i++) {
            due.is("value(0, " + i + ")", x.value(0, i), -1);
        }
        due.is("value(0, 6)", x.value(0, 6), X);
        int[] none = {-1, 7, 8, 60, MIN, MAX};
        for (int number : none) {
            due.is("value(0, " + number + ")", x.value(0, number), -1);
            due.is("value(" + number + ", 6)", x.value(number, 6), -1);
        }
        due.is("value(1, 6)", x.value(1, 6), -1);
        Due.notice(x, 0, "a=0;b=0;c=a;d=p;g=x", 1, 0);
        long[] least = {0, 0, 1, 0, 0, 0};
        for (int i = 0; i < 6; i++) {
            due.is("value(1, " + i + "): a 0 is no lack", x.value(1, i), least[i]);
        }
        Due.notice(x, 0, "a=1;g=1", 1, 0);
        due.is("value(2, 0) of one with a fault", x.value(2, 0), -1);
        Due.form(x, EIGHT_DAYS);
        Due.notice(x, 1, "a=1;b=2;c=3;d=4;e=5;f=6;g=7;h=8", 1, 0);
        due.is("value(2, 7), the last of eight", x.value(2, 7), 8);
        due.is("value(2, 8), the ninth", x.value(2, 8), -1);
        x.undo();
        x.undo();
        x.undo();
        due.is("value(1, 0) of one taken back", x.value(1, 0), -1);
        Due.notice(x, 0, "g=y", 1, 0);
        due.is("value(1, 0): the next has nothing of it", x.value(1, 0), -1);
    }

    private void about() {
        due.promise(14, "Of a NOTICE, what 0 its FORM, 1 LINES, 2 DUE, 3 the ISSUE that has it (NONE while it WAITS), 4 LAWS,"
                + " 5 which one it CORRECTS (NONE), 6 whether it RENAMES (1), 7 whether it STRIKES (1).");
        GazetteHouse x = Due.house("a:day", "a:word");
        Due.notice(x, 0, "a=1", 1, 0);
        Due.notice(x, 1, "a=x", 60, 9_999);
        aboutIs(x, 0, 0, 1, 0, -1, 0, -1, 0, 0);
        aboutIs(x, 1, 1, 60, 9_999, -1, 0, -1, 0, 0);
        for (int i = 0; i < 4; i++) {
            x.says(1, 0, 5, 5);
        }
        x.corrects(1, 0);
        x.renames(1, X, Y);
        x.strikes(1, Z);
        aboutIs(x, 1, 1, 60, 9_999, -1, 4, 0, 1, 1);
        x.issue(0, 1, 1, 10);
        aboutIs(x, 0, 0, 1, 0, 0, 0, -1, 0, 0);
        aboutIs(x, 1, 1, 60, 9_999, -1, 4, 0, 1, 1);
        x.issue(1, 2, 1, 60);
        aboutIs(x, 1, 1, 60, 9_999, 1, 4, 0, 1, 1);

        due.promise(14, "NONE if there is none such.");
        int[] none = {-1, 2, 60, MIN, MAX};
        for (int notice : none) {
            for (int what = 0; what <= 7; what++) {
                due.is("about(" + notice + ", " + what + ")", x.about(notice, what), -1);
            }
        }
        int[] noWhat = {-1, 8, MIN, MAX};
        for (int what : noWhat) {
            due.is("about(0, " + what + ")", x.about(0, what), -1);
        }
    }

    private void aboutIs(GazetteHouse x, int notice, int... want) {
        for (int what = 0; what < want.length; what++) {
            due.is("about(" + notice + ", " + what + ")", x.about(notice, what), want[what]);
        }
    }

    // ---- promises 15 to 18

    /** Notice 0 is printed on day 0; notices 1 to 3 wait. */
    private static GazetteHouse house() {
        GazetteHouse x = Due.house("a:word");
        Due.notice(x, 0, "a=x", 10, 0);
        x.issue(0, 1, 1, 10);
        for (int i = 1; i <= 3; i++) {
            Due.notice(x, 0, "a=x", 10, 500);
        }
        return x;
    }

    private void printedOnesSayNoMore() {
        due.term("promises 15 to 18", "Ahead of the calls `says`, `corrects`, `renames`, `strikes` the interface says:"
                + " ---- what a notice that waits says (6 if it is printed).");
        GazetteHouse x = house();
        x.issue(1, 2, 1, 10);
        for (int notice = 0; notice <= 1; notice++) {
            due.refused(x, "says of " + notice, x.says(notice, 0, 0, 0), 6);
            due.refused(x, "corrects of " + notice, x.corrects(notice, 0), 6);
            due.refused(x, "renames of " + notice, x.renames(notice, X, Y), 6);
            due.refused(x, "strikes of " + notice, x.strikes(notice, X), 6);
            aboutIs(x, notice, 0, 10, notice * 500, notice, 0, -1, 0, 0);
        }
        due.taken(x, "says of 2, which waits", x.says(2, 0, 0, 0), 1);
        due.taken(x, "corrects of 2, which waits", x.corrects(2, 0));
        due.taken(x, "renames of 2, which waits", x.renames(2, X, Y));
        due.taken(x, "strikes of 2, which waits", x.strikes(2, X));
    }

    private void says() {
        due.promise(15, "A LAW more: how many;");
        GazetteHouse x = house();
        due.taken(x, "says(1, 0, MIN + 1, 0)", x.says(1, 0, MIN + 1, 0), 1);
        due.taken(x, "says(1, 39, MAX, 9999)", x.says(1, 39, MAX, 9_999), 2);
        due.taken(x, "says(2, 0, 0, 0) of another", x.says(2, 0, 0, 0), 1);
        due.taken(x, "says(1, 0, -1, 0), the same key and day once more", x.says(1, 0, -1, 0), 3);
        due.taken(x, "says(1, 0, -1, 0), the same once more", x.says(1, 0, -1, 0), 4);
        due.is("about(1, 4)", x.about(1, 4), 4);

        due.promise(15, "NONE: 1; 6; 2 (KEY, VALUE, day); 3.");
        int[] none = {-1, 4, 60, MIN, MAX};
        for (int notice : none) {
            due.refused(x, "says of notice " + notice, x.says(notice, 0, 0, 0), 1);
            due.refused(x, "says of notice " + notice + ": 1 goes ahead of 2", x.says(notice, -1, MIN, -1), 1);
        }
        due.refused(x, "says(0, -1, MIN, -1): 6 goes ahead of 2", x.says(0, -1, MIN, -1), 6);
        due.refused(x, "says(2, -1, 0, 0)", x.says(2, -1, 0, 0), 2);
        due.refused(x, "says(2, 40, 0, 0)", x.says(2, 40, 0, 0), 2);
        due.refused(x, "says(2, 0, MIN, 0)", x.says(2, 0, MIN, 0), 2);
        due.refused(x, "says(2, 0, 0, -1)", x.says(2, 0, 0, -1), 2);
        due.refused(x, "says(2, 0, 0, 10000)", x.says(2, 0, 0, 10_000), 2);
        due.refused(x, "says(1, 0, 0, 0), the fifth", x.says(1, 0, 0, 0), 3);
        due.refused(x, "says(1, 40, 0, 0), the fifth: 2 goes ahead of 3", x.says(1, 40, 0, 0), 2);
        due.refused(x, "says(1, 0, MIN, 0), the fifth: 2 goes ahead of 3", x.says(1, 0, MIN, 0), 2);
        due.refused(x, "says(1, 0, 0, 10000), the fifth: 2 goes ahead of 3", x.says(1, 0, 0, 10_000), 2);
        due.is("about(1, 4)", x.about(1, 4), 4);
        due.is("about(2, 4)", x.about(2, 4), 1);
        due.is("count(5)", x.count(5), 8);
    }

    private void corrects() {
        due.promise(16, "It CORRECTS another one (in place of what it did): true;");
        GazetteHouse x = house();
        due.taken(x, "corrects(3, 0), which is printed", x.corrects(3, 0));
        due.is("about(3, 5)", x.about(3, 5), 0);
        due.taken(x, "corrects(3, 2), which waits, in place of 0", x.corrects(3, 2));
        due.is("about(3, 5)", x.about(3, 5), 2);
        due.taken(x, "corrects(3, 1)", x.corrects(3, 1));
        due.taken(x, "corrects(2, 1): two may correct one", x.corrects(2, 1));
        x.issue(1, 1_000, 3, 10);
        due.is("isVoid(0, 1): what was replaced does not hold", x.isVoid(0, 1), 0);
        due.is("isVoid(1, 1)", x.isVoid(1, 1), 1);
        due.is("isVoid(2, 1)", x.isVoid(2, 1), 0);

        due.promise(16, "false: 1; 6; 2 if that one's number is not less.");
        GazetteHouse y = house();
        int[] none = {-1, 4, 60, MIN, MAX};
        for (int notice : none) {
            due.refused(y, "corrects(" + notice + ", 0)", y.corrects(notice, 0), 1);
            due.refused(y, "corrects(3, " + notice + ")", y.corrects(3, notice), 1);
            due.refused(y, "corrects(0, " + notice + "): 1 goes ahead of 6", y.corrects(0, notice), 1);
        }
        due.refused(y, "corrects(0, 0): 6 goes ahead of 2", y.corrects(0, 0), 6);
        due.refused(y, "corrects(0, 1): 6 goes ahead of 2", y.corrects(0, 1), 6);
        due.refused(y, "corrects(2, 2)", y.corrects(2, 2), 2);
        due.refused(y, "corrects(2, 3)", y.corrects(2, 3), 2);
        due.is("about(2, 5)", y.about(2, 5), -1);
        due.taken(y, "corrects(2, 1)", y.corrects(2, 1));
        due.refused(y, "corrects(2, 3)", y.corrects(2, 3), 2);
        due.is("about(2, 5): a refused one replaces nothing", y.about(2, 5), 1);
    }

    private void renames() {
        due.promise(17, "It RENAMES (in place of what it did): two words as numbers"
                + " (as value() tells them: of 1 to 8 letters, unlike): true;");
        GazetteHouse x = house();
        for (String word : WORDS) {
            due.taken(x, "renames(1, " + word + ", b)", x.renames(1, Due.word(word), 2));
            due.taken(x, "renames(1, b, " + word + ")", x.renames(1, 2, Due.word(word)));
        }
        due.taken(x, "renames(1, x, y)", x.renames(1, X, Y));
        due.is("about(1, 6)", x.about(1, 6), 1);
        due.taken(x, "renames(1, x, z), in place of it", x.renames(1, X, Z));
        due.is("about(1, 6)", x.about(1, 6), 1);
        due.taken(x, "renames(2, what value(0, 0) tells, p)", x.renames(2, x.value(0, 0), Due.word("p")));
        x.issue(1, 1_000, 3, 10);
        due.is("find(y, 1): what was replaced does not hold", x.find(Y, 1), 0);
        due.is("find(z, 1)", x.find(Z, 1), 4);
        due.is("find(p, 1)", x.find(Due.word("p"), 1), 4);

        due.promise(17, "false: 1; 6; 2.");
        GazetteHouse y = house();
        int[] none = {-1, 4, 60, MIN, MAX};
        for (int notice : none) {
            due.refused(y, "renames(" + notice + ", x, y)", y.renames(notice, X, Y), 1);
            due.refused(y, "renames(" + notice + ", 0, 0): 1 goes ahead of 2", y.renames(notice, 0, 0), 1);
        }
        due.refused(y, "renames(0, 0, 0): 6 goes ahead of 2", y.renames(0, 0, 0), 6);
        for (long word : NO_WORDS) {
            due.refused(y, "renames(1, " + word + ", x)", y.renames(1, word, X), 2);
            due.refused(y, "renames(1, x, " + word + ")", y.renames(1, X, word), 2);
        }
        due.refused(y, "renames(1, x, x)", y.renames(1, X, X), 2);
        due.refused(y, "renames(1, zzzzzzzz, zzzzzzzz)", y.renames(1, EIGHT, EIGHT), 2);
        due.is("about(1, 6)", y.about(1, 6), 0);
    }

    private void strikes() {
        due.promise(18, "It STRIKES a word (likewise): true;");
        GazetteHouse x = house();
        for (String word : WORDS) {
            due.taken(x, "strikes(1, " + word + ")", x.strikes(1, Due.word(word)));
        }
        due.is("about(1, 7)", x.about(1, 7), 1);
        due.taken(x, "strikes(1, y), in place of it", x.strikes(1, Y));
        due.taken(x, "strikes(2, y): two may strike one", x.strikes(2, Y));
        x.issue(1, 1_000, 3, 10);
        due.is("struck(zzzzzzzz, 1): what was replaced does not hold", x.struck(EIGHT, 1), 0);
        due.is("struck(azazaza, 1)", x.struck(Due.word("azazaza"), 1), 0);
        due.is("struck(y, 1)", x.struck(Y, 1), 1);

        due.promise(18, "false: 1; 6; 2.");
        GazetteHouse y = house();
        int[] none = {-1, 4, 60, MIN, MAX};
        for (int notice : none) {
            due.refused(y, "strikes(" + notice + ", x)", y.strikes(notice, X), 1);
            due.refused(y, "strikes(" + notice + ", 0): 1 goes ahead of 2", y.strikes(notice, 0), 1);
        }
        due.refused(y, "strikes(0, 0): 6 goes ahead of 2", y.strikes(0, 0), 6);
        for (long word : NO_WORDS) {
            due.refused(y, "strikes(1, " + word + ")", y.strikes(1, word), 2);
        }
        due.is("about(1, 7)", y.about(1, 7), 0);
    }
}
