/** Term V, the constants, and promises 29 to 31, sentence by sentence. */
final class ActsSentences {
    private static final int MIN = Integer.MIN_VALUE;
    private static final int MAX = Integer.MAX_VALUE;
    private static final long X = Due.word("x");
    private static final long Y = Due.word("y");
    private final Due due;

    ActsSentences(Due due) {
        this.due = due;
    }

    void all() {
        ofTheLatestCall();
        notRefused();
        noneSuch();
        aNumber();
        noRoom();
        aFault();
        mustDoesNotGoIn();
        isPrinted();
        constants();
        undoTakesTheLatest();
        undoOfAHundred();
        undoBehindTheIssue();
        undoOfNone();
        undoOfEach();
        count();
        countNone();
        trouble();
        upToTheLastCall();
    }

    /** Notices 0 and 1 wait, of 10 lines and due on 50. */
    private static GazetteHouse house() {
        GazetteHouse x = Due.house("a:word");
        Due.notice(x, 0, "a=x", 10, 50);
        Due.notice(x, 0, "a=y", 10, 50);
        return x;
    }

    // ---- Term V

    private void ofTheLatestCall() {
        due.term("promise 31", "TROUBLE of the latest call that may be refused:");
        GazetteHouse x = house();
        due.refused(x, "working(-1)", x.working(-1), 2);
        due.refused(x, "notice(9, 0, 1, 0)", x.notice(9, 0, 1, 0), 1);
        questions(x);
        due.is("trouble() behind calls for which none is told", x.trouble(), 1);
        due.refused(x, "form(1)", x.form(1), 2);
        due.taken(x, "feast(3, true)", x.feast(3, true));
        questions(x);
        due.is("trouble() behind calls for which none is told", x.trouble(), 0);
        x.working(-1);
        due.is("feed", x.feed(0, 0, 0, 0, 0), 20);
        due.is("trouble() behind feed()", x.trouble(), 2);
        due.is("undo()", x.undo(), 1);
        due.is("trouble() behind undo()", x.trouble(), 2);
    }

    private static void questions(GazetteHouse x) {
        x.fault();
        x.where();
        x.lacks();
        x.field(9, 0, 0);
        x.fields(9);
        x.value(9, 0);
        x.about(9, 0);
        x.issued(9, 0);
        x.printed(9, 0);
        x.law(-1, 0, 0);
        x.source(-1, 0, 0);
        x.isVoid(-1, 0);
        x.changes(-1, 0);
        x.find(0, 0);
        x.found(0);
        x.struck(0, 0);
        x.count(9);
        x.trouble();
    }

    private void notRefused() {
        due.term("promise 31", "0 it wasn't;");
        GazetteHouse x = house();
        due.is("trouble() of a new house", new GazetteHouse().trouble(), 0);
        x.working(-1);
        due.taken(x, "feast(3, true)", x.feast(3, true));
        x.working(-1);
        due.taken(x, "feast(3, true), which is no act", x.feast(3, true));
        x.working(-1);
        due.taken(x, "working(3): a 0 is no refusal", x.working(3), 0);
        x.working(-1);
        due.taken(x, "after(0, 9999, true): 10000 is no refusal", x.after(0, 9_999, true), 10_000);
        x.working(-1);
        due.taken(x, "form", Due.form(x, "a:day"), 1);
        x.working(-1);
        due.taken(x, "notice", Due.notice(x, 1, "a=1", 1, 50), 2);
        x.working(-1);
        due.taken(x, "says", x.says(2, 0, -1, 0), 1);
        x.working(-1);
        due.taken(x, "corrects", x.corrects(2, 0));
        x.working(-1);
        due.taken(x, "renames", x.renames(2, X, Y));
        x.working(-1);
        due.taken(x, "strikes", x.strikes(2, X));
        x.working(-1);
        due.taken(x, "issue", x.issue(0, 1, 1, 10), 0);
    }

    private void noneSuch() {
        due.term("promises 7, 15 to 18 and 31", "1 there is none such;");
        GazetteHouse x = house();
        int[] none = {-1, 2, 60, MIN, MAX};
        for (int number : none) {
            due.refused(x, "notice by form " + number, x.notice(number, 0, 1, 0), 1);
            due.refused(x, "says of " + number, x.says(number, 0, 0, 0), 1);
            due.refused(x, "corrects of " + number, x.corrects(number, 0), 1);
            due.refused(x, "corrects of another, " + number, x.corrects(1, number), 1);
            due.refused(x, "renames of " + number, x.renames(number, X, Y), 1);
            due.refused(x, "strikes of " + number, x.strikes(number, X), 1);
        }
        x.undo();
        due.refused(x, "says of one taken back", x.says(1, 0, 0, 0), 1);
    }

    private void aNumber() {
        due.term("promises 2 to 4, 6, 7, 15 to 19 and 31", "2 a number;");
        GazetteHouse x = house();
        due.refused(x, "feast(10000, true)", x.feast(10_000, true), 2);
        due.refused(x, "working(10000)", x.working(10_000), 2);
        due.refused(x, "after(10000, 0, true)", x.after(10_000, 0, true), 2);
        due.refused(x, "after(0, 10000, true)", x.after(0, 10_000, true), 2);
        due.refused(x, "form(1)", x.form(1), 2);
        due.refused(x, "notice(0, 1, 1, 0)", x.notice(0, 1, 1, 0), 2);
        due.refused(x, "notice(0, 0, 61, 0)", x.notice(0, 0, 61, 0), 2);
        due.refused(x, "notice(0, 0, 1, 10000)", x.notice(0, 0, 1, 10_000), 2);
        due.refused(x, "says(0, 40, 0, 0)", x.says(0, 40, 0, 0), 2);
        due.refused(x, "says(0, 0, MIN, 0)", x.says(0, 0, MIN, 0), 2);
        due.refused(x, "says(0, 0, 0, 10000)", x.says(0, 0, 0, 10_000), 2);
        due.refused(x, "corrects(0, 1)", x.corrects(0, 1), 2);
        due.refused(x, "renames(0, x, x)", x.renames(0, X, X), 2);
        due.refused(x, "strikes(0, 27)", x.strikes(0, 27), 2);
        due.refused(x, "issue(0, 10001, 1, 10)", x.issue(0, 10_001, 1, 10), 2);
        due.is("count(5): none of them is an act", x.count(5), 3);
    }

    private void noRoom() {
        due.term("promises 2, 6, 7, 15, 19 and 31", "3 no room;");
        GazetteHouse x = house();
        for (int i = 0; i < 60; i++) {
            x.feast(i, true);
        }
        due.refused(x, "feast, the 61st", x.feast(60, true), 3);
        for (int i = 0; i < 4; i++) {
            x.says(0, 0, 0, 0);
        }
        due.refused(x, "says, the fifth", x.says(0, 0, 0, 0), 3);
        for (int i = 1; i < 12; i++) {
            Due.form(x, "a:day");
        }
        due.refused(x, "form, the 13th", Due.form(x, "a:day"), 3);
        for (int i = 2; i < 60; i++) {
            Due.notice(x, 0, "a=x", 60, 9_999);
        }
        due.refused(x, "notice, the 61st", Due.notice(x, 0, "a=x", 1, 0), 3);
        for (int i = 0; i < 40; i++) {
            x.issue(i, i + 1, 1, 10);
        }
        due.refused(x, "issue, the 41st", x.issue(40, 41, 1, 10), 3);
    }

    private void aFault() {
        due.term("promises 6 to 9 and 31", "4 a FAULT;");
        GazetteHouse x = house();
        String[] forms = {"a", "a:span 1 days b", "a:day;a:day", "a:num 2..1", "a:one p/q/r/s/t"};
        for (int i = 0; i < forms.length; i++) {
            due.refused(x, "form '" + forms[i] + "'", Due.form(x, forms[i]), 4);
            due.is("fault()", x.fault(), i + 1);
        }
        Due.form(x, "a:day;b:day");
        String[] notices = {"a", "c=1", "a=1;a=1", "a=x", null, "a=1"};
        for (int i = 0; i < notices.length; i++) {
            if (notices[i] != null) {
                due.refused(x, "notice '" + notices[i] + "'", Due.notice(x, 1, notices[i], 1, 0), 4);
                due.is("fault()", x.fault(), i + 1);
            }
        }
    }

    private void mustDoesNotGoIn() {
        due.term("promises 19 and 31", "5 what MUST doesn't go in;");
        GazetteHouse x = house();
        due.refused(x, "issue(0, 51, 1, 10): two of 10 lines must", x.issue(0, 51, 1, 10), 5);
        due.taken(x, "issue(0, 50, 1, 10): none must", x.issue(0, 50, 1, 10), 0);
        due.is("issued(0, 4)", x.issued(0, 4), 1);
    }

    private void isPrinted() {
        due.term("promises 15 to 18 and 31", "6 it is printed, or it isn't yet.");
        GazetteHouse x = house();
        due.taken(x, "issue(0, 1, 1, 10)", x.issue(0, 1, 1, 10), 0);
        due.refused(x, "says of 0", x.says(0, 0, 0, 0), 6);
        due.refused(x, "corrects of 0", x.corrects(0, 0), 6);
        due.refused(x, "renames of 0", x.renames(0, X, Y), 6);
        due.refused(x, "strikes of 0", x.strikes(0, X), 6);
        due.taken(x, "says of 1", x.says(1, 0, 0, 0), 1);
        due.taken(x, "corrects(1, 0), which is printed", x.corrects(1, 0));
        due.taken(x, "renames of 1", x.renames(1, X, Y));
        due.taken(x, "strikes of 1", x.strikes(1, X));
        Due.notice(x, 0, "a=x", 10, 50);
        due.taken(x, "corrects(2, 1), which isn't printed yet", x.corrects(2, 1));
    }

    private void constants() {
        due.term("all promises", "The constants: `NONE = -1`: There is none; refused.");
        due.is("NONE", GazetteHouse.NONE, -1);
        GazetteHouse x = house();
        due.is("working(-1), refused", x.working(-1), GazetteHouse.NONE);
        due.is("fields(9), none such", x.fields(9), GazetteHouse.NONE);
        due.is("value(9, 9), a long", x.value(9, 9), -1L);

        due.term("promise 22", "`NO_LAW = Integer.MIN_VALUE`: There is no LAW.");
        due.is("NO_LAW", GazetteHouse.NO_LAW, MIN);
        due.is("law(0, 0, 0)", x.law(0, 0, 0), MIN);
        x.says(0, 0, -1, 0);
        x.issue(0, 1, 1, 10);
        due.is("law(0, 0, 0): -1 is a law", x.law(0, 0, 0), -1);
    }

    // ---- promise 29

    private void undoTakesTheLatest() {
        due.promise(29, "The latest act that was accepted, and isn't taken back");
        GazetteHouse x = new GazetteHouse();
        x.feast(1, true);
        x.feast(2, true);
        x.feast(-1, true);
        x.feast(2, true);
        due.is("undo(): 2, not what was refused or was no act", x.undo(), 1);
        due.is("working(2)", x.working(2), 1);
        due.is("working(1)", x.working(1), 0);
        x.feast(3, true);
        due.is("undo(): 3, not what is taken back", x.undo(), 1);
        due.is("working(3)", x.working(3), 1);
        due.is("working(1)", x.working(1), 0);
        due.is("undo(): 1", x.undo(), 1);
        due.is("working(1)", x.working(1), 1);
        due.is("working(2)", x.working(2), 1);
        due.is("undo()", x.undo(), 0);
    }

    private void undoOfAHundred() {
        due.promise(29, "(of a hundred,");
        GazetteHouse x = house();
        for (int i = 0; i < 100; i++) {
            x.strikes(1, 1 + i % 26);
        }
        due.is("count(5)", x.count(5), 100);
        x.says(1, 0, 0, 0);
        due.is("count(5)", x.count(5), 100);
        for (int i = 0; i < 40; i++) {
            due.is("undo()", x.undo(), 1);
        }
        due.is("count(5)", x.count(5), 60);
        for (int i = 0; i < 50; i++) {
            x.renames(1, X, 1 + i % 20);
        }
        due.is("count(5): sixty and fifty are a hundred", x.count(5), 100);
        for (int i = 0; i < 100; i++) {
            due.is("undo(), " + i, x.undo(), 1);
        }
        due.is("undo(), the 101st", x.undo(), 0);
        due.is("count(2): what is too old stays", x.count(2), 2);
        due.is("about(1, 7): the oldest strikes of it, too", x.about(1, 7), 1);
        due.is("about(1, 6)", x.about(1, 6), 0);
        due.is("about(1, 4)", x.about(1, 4), 0);
    }

    private void undoBehindTheIssue() {
        due.promise(29, "behind the latest ISSUE) is taken back: 1;");
        GazetteHouse x = house();
        x.feast(3, true);
        x.issue(0, 50, 1, 10);
        due.is("undo()", x.undo(), 0);
        x.feast(4, true);
        x.says(1, 0, 0, 0);
        due.is("undo() of says", x.undo(), 1);
        due.is("undo() of a feast", x.undo(), 1);
        due.is("undo(): what lies ahead of the issue stays", x.undo(), 0);
        due.is("working(3)", x.working(3), 0);
        due.is("working(4)", x.working(4), 1);
        due.is("count(2)", x.count(2), 2);
        due.is("count(3): an issue is no act", x.count(3), 1);
        x.feast(4, true);
        x.issue(0, 50, 1, 10);
        due.is("undo(): an issue that was refused changes nothing", x.undo(), 1);
    }

    private void undoOfNone() {
        due.promise(29, "0 if there is none.");
        due.is("undo() of a new house", new GazetteHouse().undo(), 0);
        GazetteHouse x = house();
        due.is("undo()", x.undo() + x.undo() + x.undo(), 3);
        for (int i = 0; i < 3; i++) {
            due.is("undo()", x.undo(), 0);
            due.is("count(5)", x.count(5), 0);
        }
        due.is("form", Due.form(x, "a:day"), 0);
        due.is("undo()", x.undo(), 1);
        due.is("undo()", x.undo(), 0);
    }

    private void undoOfEach() {
        due.promise(29, "Acts: feast, form, notice, says, corrects, renames, strikes.");
        GazetteHouse x = house();
        x.says(1, 0, 5, 5);
        x.says(1, 0, 6, 6);
        x.corrects(1, 0);
        x.renames(1, X, Y);
        x.renames(1, Y, X);
        x.strikes(1, X);
        x.strikes(1, Y);
        x.feast(3, true);
        x.feast(3, false);
        x.working(0);
        x.after(0, 0, true);
        due.is("feed, which is no act", x.feed(0, 0, 0, 0, 0), 20);
        due.is("count(5)", x.count(5), 12);
        undone(x, "working(3) behind a feast no more", x.undo(), x.working(3), 0);
        undone(x, "working(3) behind a feast", x.undo(), x.working(3), 1);
        undone(x, "about(1, 7) behind the second strikes", x.undo(), x.about(1, 7), 1);
        undone(x, "about(1, 7) behind strikes", x.undo(), x.about(1, 7), 0);
        undone(x, "about(1, 6) behind the second renames", x.undo(), x.about(1, 6), 1);
        undone(x, "about(1, 6) behind renames", x.undo(), x.about(1, 6), 0);
        undone(x, "about(1, 5) behind corrects", x.undo(), x.about(1, 5), -1);
        undone(x, "about(1, 4) behind the second says", x.undo(), x.about(1, 4), 1);
        undone(x, "about(1, 4) behind says", x.undo(), x.about(1, 4), 0);
        undone(x, "count(2) behind notice", x.undo(), x.count(2), 1);
        undone(x, "count(2) behind notice", x.undo(), x.count(2), 0);
        undone(x, "count(1) behind form", x.undo(), x.count(1), 0);
        due.is("undo()", x.undo(), 0);
        due.is("count(6): the tape stays", x.count(6), 20);
        whatWasReplacedComesBack();
        numbersAreGivenAgain();
    }

    private void undone(GazetteHouse x, String what, int undo, int got, int want) {
        due.is("undo() ahead of " + what, undo, 1);
        due.is(what, got, want);
    }

    private void whatWasReplacedComesBack() {
        GazetteHouse x = house();
        Due.notice(x, 0, "a=z", 10, 50);
        x.corrects(2, 0);
        x.corrects(2, 1);
        x.undo();
        x.strikes(2, X);
        x.strikes(2, Y);
        x.undo();
        x.renames(2, X, Due.word("p"));
        x.renames(2, Y, Due.word("q"));
        x.undo();
        x.says(2, 0, 7, 0);
        x.says(2, 0, 8, 0);
        x.undo();
        due.is("about(2, 5)", x.about(2, 5), 0);
        due.is("issue", x.issue(0, 1, 3, 10), 0);
        due.is("isVoid(0, 0)", x.isVoid(0, 0), 1);
        due.is("isVoid(1, 0)", x.isVoid(1, 0), 0);
        due.is("struck(x, 0)", x.struck(X, 0), 1);
        due.is("struck(y, 0)", x.struck(Y, 0), 0);
        due.is("find(p, 0)", x.find(Due.word("p"), 0), 1);
        due.is("found(0): p had been x, not y", x.found(0), 0);
        due.is("find(q, 0)", x.find(Due.word("q"), 0), 0);
        due.is("law(0, 0, 0)", x.law(0, 0, 0), 7);
    }

    private void numbersAreGivenAgain() {
        GazetteHouse x = house();
        x.says(1, 0, 7, 0);
        x.corrects(1, 0);
        x.renames(1, X, Y);
        x.strikes(1, X);
        for (int i = 0; i < 7; i++) {
            due.is("undo()", x.undo(), 1);
        }
        due.is("form", Due.form(x, "a:day;b:day?"), 0);
        due.is("fields(0)", x.fields(0), 2);
        due.is("notice", Due.notice(x, 0, "a=1", 2, 3), 0);
        due.is("notice", Due.notice(x, 0, "a=2", 4, 5), 1);
        int[] want = {0, 4, 5, -1, 0, -1, 0, 0};
        for (int what = 0; what < want.length; what++) {
            due.is("about(1, " + what + ")", x.about(1, what), want[what]);
        }
        due.is("value(1, 0)", x.value(1, 0), 2);
        due.is("value(1, 1)", x.value(1, 1), -1);
        nothingIsLeftOfANotice(0);
        nothingIsLeftOfANotice(100);
        nothingIsLeftOfAForm("a:num 3..9?;b:one p/q?;c:day?;d:span 5 work c");
        nothingIsLeftOfAForm("a:num 3..9?;b:one p/q?;c:day?;d:span 5 work c;e:dax");
    }

    /** A notice that is taken back, or has a fault, is in no issue, whether it was due or not. */
    private void nothingIsLeftOfANotice(int dueDay) {
        GazetteHouse x = house();
        due.is("notice", Due.notice(x, 0, "a=x", 10, dueDay), 2);
        x.undo();
        due.is("issue", x.issue(1, 2, 8, 10), 0);
        due.is("issued(0, 1) behind one taken back", x.issued(0, 1), 2);
        due.is("issued(0, 4)", x.issued(0, 4), 0);
        due.is("notice of a fault", Due.notice(x, 0, "a=1", 10, dueDay), -1);
        due.is("count(4)", x.count(4), 0);
        due.is("issue", x.issue(2, 3, 8, 10), 1);
        due.is("issued(1, 1) behind one of a fault", x.issued(1, 1), 0);
        due.is("issued(1, 2)", x.issued(1, 2), 0);
    }

    /** A form that is taken back, or has a fault, tells nothing of the next one of its number. */
    private void nothingIsLeftOfAForm(String text) {
        GazetteHouse x = new GazetteHouse();
        Due.form(x, text);
        x.undo();
        due.is("form behind '" + text + "'", Due.form(x, "a:day;b:one r;c:word;d:day"), 0);
        int[][] want = {{1, 0, 0, 0}, {3, 0, 1, 0}, {2, 0, 0, 0}, {1, 0, 0, 0}};
        for (int i = 0; i < want.length; i++) {
            for (int what = 0; what < 4; what++) {
                due.is("field(0, " + i + ", " + what + ")", x.field(0, i, what), want[i][what]);
            }
        }
        due.is("notice of a word that is no more", Due.notice(x, 0, "a=1;b=p;c=x;d=1", 1, 0), -1);
        due.is("notice", Due.notice(x, 0, "a=1;b=r;c=x;d=1", 1, 0), 0);
    }

    // ---- promises 30 and 31

    private void count() {
        due.promise(30, "0 FEASTS, 1 FORMS, 2 NOTICES, 3 ISSUES, 4 NOTICES that WAIT, 5 acts that can be taken back, 6 bytes of THE TAPE.");
        GazetteHouse x = new GazetteHouse();
        countIs(x, 0, 0, 0, 0, 0, 0, 0);
        x.feast(1, true);
        x.feast(2, true);
        x.feast(2, false);
        countIs(x, 1, 0, 0, 0, 0, 3, 0);
        Due.form(x, "a:day");
        Due.form(x, "a:day");
        countIs(x, 1, 2, 0, 0, 0, 5, 0);
        for (int i = 0; i < 3; i++) {
            Due.notice(x, 0, "a=1", 10, 50);
        }
        countIs(x, 1, 2, 3, 0, 3, 8, 0);
        x.issue(0, 1, 2, 10);
        countIs(x, 1, 2, 3, 1, 1, 0, 0);
        x.says(2, 0, 0, 0);
        x.corrects(2, 0);
        x.renames(2, X, Y);
        x.strikes(2, X);
        countIs(x, 1, 2, 3, 1, 1, 4, 0);
        x.feed(0, 0, 0, 0, 0);
        x.feed(0, 0, 0, 0, 0);
        countIs(x, 1, 2, 3, 1, 1, 4, 40);
        x.form(40);
        countIs(x, 1, 2, 3, 1, 1, 4, 0);
        x.undo();
        countIs(x, 1, 2, 3, 1, 1, 3, 0);
        x.issue(1, 2, 1, 10);
        countIs(x, 1, 2, 3, 2, 0, 0, 0);
    }

    private void countIs(GazetteHouse x, int... want) {
        for (int what = 0; what < want.length; what++) {
            due.is("count(" + what + ")", x.count(what), want[what]);
        }
    }

    private void countNone() {
        due.promise(30, "NONE for others.");
        GazetteHouse x = house();
        int[] none = {-1, 7, MIN, MAX};
        for (int what : none) {
            due.is("count(" + what + ")", x.count(what), -1);
        }
    }

    private void trouble() {
        due.promise(31, "TROUBLE.");
        GazetteHouse x = house();
        due.is("trouble()", x.trouble(), 0);
        x.says(9, 0, 0, 0);
        due.is("trouble() 1", x.trouble(), 1);
        due.is("trouble() does not change it", x.trouble(), 1);
        x.working(-1);
        due.is("trouble() 2", x.trouble(), 2);
        for (int i = 0; i < 5; i++) {
            x.says(0, 0, 0, 0);
        }
        due.is("trouble() 3", x.trouble(), 3);
        x.form(0);
        due.is("trouble() 4", x.trouble(), 4);
        x.issue(0, 51, 1, 10);
        due.is("trouble() 5", x.trouble(), 5);
        x.issue(0, 51, 2, 10);
        due.is("trouble() 0", x.trouble(), 0);
        x.strikes(0, X);
        due.is("trouble() 6", x.trouble(), 6);
    }

    /** "An object is used for at most 512 calls after it has been made": the 512th still counts. */
    private void upToTheLastCall() {
        due.part("all promises, \"An object is used for at most 512 calls after it has been made; what later calls answer is free.\"");
        GazetteHouse x = new GazetteHouse();
        for (int i = 0; i < 255; i++) {
            due.is("feast(" + 2 * i + ", true)", x.feast(2 * i, true), i < 60);
            due.is("trouble()", x.trouble(), i < 60 ? 0 : 3);
        }
        due.is("undo(), the 511th", x.undo(), 1);
        due.is("count(5), the 512th", x.count(5), 59);
    }
}
