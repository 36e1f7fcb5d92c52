/** Term III and promises 19 to 21, sentence by sentence. */
final class IssuesSentences {
    private static final int MIN = Integer.MIN_VALUE;
    private static final int MAX = Integer.MAX_VALUE;
    private final Due due;

    IssuesSentences(Due due) {
        this.due = due;
    }

    void all() {
        waits();
        linesAndDue();
        pages();
        must();
        othersByDue();
        whatGoesIn();
        upToTwelve();
        printedThatDay();
        issue();
        issueRefusals();
        issued();
        issuedPages();
        issuedLateAndWaited();
        issuedNone();
        printed();
    }

    private static GazetteHouse house() {
        return Due.house("a: word");
    }

    private static void add(GazetteHouse x, int lines, int dueDay) {
        Due.notice(x, 0, "a=x", lines, dueDay);
    }

    /** Just these notices are in an issue, in this order. */
    private void has(GazetteHouse x, int issue, int... want) {
        due.is("issued(" + issue + ", 1)", x.issued(issue, 1), want.length);
        for (int i = 0; i < want.length; i++) {
            due.is("printed(" + issue + ", " + i + ")", x.printed(issue, i), want[i]);
            due.is("about(" + want[i] + ", 3)", x.about(want[i], 3), issue);
        }
        due.is("printed(" + issue + ", " + want.length + ")", x.printed(issue, want.length), -1);
    }

    // ---- Term III

    private void waits() {
        due.term("promises 7, 14 and 30", "A NOTICE WAITS until an ISSUE has it.");
        GazetteHouse x = house();
        add(x, 10, 0);
        add(x, 20, 50);
        due.is("count(4)", x.count(4), 2);
        x.issue(0, 1, 1, 10);
        due.is("count(4)", x.count(4), 1);
        due.is("about(0, 3)", x.about(0, 3), 0);
        due.is("about(1, 3)", x.about(1, 3), -1);
        x.issue(1, 2, 1, 10);
        due.is("about(1, 3) of one that did not go in", x.about(1, 3), -1);
        x.issue(2, 3, 1, 20);
        due.is("about(1, 3)", x.about(1, 3), 2);
        due.is("about(0, 3): no other issue has it", x.about(0, 3), 0);
        due.is("count(4)", x.count(4), 0);
    }

    private void linesAndDue() {
        due.term("promise 7", "It has LINES (1 .. 60) and a DUE day.");
        GazetteHouse x = house();
        int[] none = {0, 61, -1, MIN, MAX};
        for (int lines : none) {
            due.refused(x, "notice of " + lines + " lines", Due.notice(x, 0, "a=x", lines, 0), 2);
            x.form(0);
        }
        due.taken(x, "notice of 1 line due on 0", Due.notice(x, 0, "a=x", 1, 0), 0);
        due.taken(x, "notice of 60 lines due on 9999", Due.notice(x, 0, "a=x", 60, 9_999), 1);
        due.is("about(0, 1)", x.about(0, 1), 1);
        due.is("about(0, 2)", x.about(0, 2), 0);
        due.is("about(1, 1)", x.about(1, 1), 60);
        due.is("about(1, 2)", x.about(1, 2), 9_999);
    }

    private void pages() {
        due.term("promise 19", "ISSUE of a day, of the next one's, of PAGES 1 .. 8 with LINES each:");
        int[] none = {0, 9, -1, MIN, MAX};
        for (int pages : none) {
            GazetteHouse x = house();
            due.refused(x, "issue of " + pages + " pages", x.issue(0, 1, pages, 10), 2);
        }
        for (int pages = 1; pages <= 8; pages++) {
            GazetteHouse x = house();
            for (int i = 0; i < 9; i++) {
                add(x, 10, 100);
            }
            due.taken(x, "issue of " + pages + " pages", x.issue(0, 1, pages, 10), 0);
            due.is("issued(0, 1) of " + pages + " pages", x.issued(0, 1), pages);
        }
    }

    private void must() {
        due.term("promise 19", "of those that WAIT all with DUE ahead of the next day (MUST),");
        GazetteHouse x = house();
        add(x, 10, 20);
        add(x, 10, 19);
        add(x, 10, 0);
        due.refused(x, "issue(10, 21, 2, 10): three must", x.issue(10, 21, 2, 10), 5);
        due.taken(x, "issue(10, 20, 2, 10): two must", x.issue(10, 20, 2, 10), 0);
        has(x, 0, 1, 2);
        due.taken(x, "issue(11, 20, 1, 10): what is due on the next day is one of the others", x.issue(11, 20, 1, 10), 1);
        has(x, 1, 0);
        add(x, 10, 9_999);
        add(x, 10, 9_999);
        due.refused(x, "issue(12, 10000, 1, 10): due on the last day, two must", x.issue(12, 10_000, 1, 10), 5);
        due.taken(x, "issue(12, 9999, 1, 10)", x.issue(12, 9_999, 1, 10), 2);
        has(x, 2, 3);
        GazetteHouse y = house();
        add(y, 10, 50);
        add(y, 10, 60);
        add(y, 10, 5);
        due.taken(y, "issue(0, 6, 1, 10): what must goes ahead of the others", y.issue(0, 6, 1, 10), 0);
        has(y, 0, 2);
    }

    private void othersByDue() {
        due.term("promise 19", "then the others by DUE, of one DUE by number:");
        GazetteHouse x = house();
        add(x, 10, 90);
        add(x, 10, 80);
        add(x, 10, 80);
        add(x, 10, 70);
        add(x, 10, 80);
        add(x, 10, 9_999);
        int[] want = {3, 1, 2, 4, 0, 5};
        for (int i = 0; i < want.length; i++) {
            due.taken(x, "issue(" + i + ", ..)", x.issue(i, i + 1, 1, 10), i);
            has(x, i, want[i]);
        }
    }

    private void whatGoesIn() {
        due.term("promise 19", "each that, with all before, goes into the PAGES (each NOTICE on one PAGE, in any way),");
        GazetteHouse x = house();
        int[] lines = {20, 11, 6, 5, 4, 60};
        for (int i = 0; i < lines.length; i++) {
            add(x, lines[i], 70 + i);
        }
        due.taken(x, "issue(0, 1, 1, 30): 20, 6 and 4 go in, not 11, 5 and 60", x.issue(0, 1, 1, 30), 0);
        has(x, 0, 0, 2, 4);

        GazetteHouse y = house();
        int[] third = {6, 6, 6, 4, 4};
        for (int i = 0; i < third.length; i++) {
            add(y, third[i], 70 + i);
        }
        due.taken(y, "issue(0, 1, 2, 10): a third of 6 is parted by no page", y.issue(0, 1, 2, 10), 0);
        has(y, 0, 0, 1, 3, 4);

        // In the order of their coming, 4, 4 and 2 on the first page leave no page for 6, 6 and 8.
        GazetteHouse z = house();
        int[] anyWay = {4, 4, 2, 6, 6, 8};
        for (int i = 0; i < anyWay.length; i++) {
            add(z, anyWay[i], 0);
        }
        due.taken(z, "issue(0, 1, 3, 10): what lies there may be laid anew", z.issue(0, 1, 3, 10), 0);
        has(z, 0, 0, 1, 2, 3, 4, 5);
        due.is("issued(0, 2)", z.issued(0, 2), 3);

        GazetteHouse full = house();
        for (int i = 0; i < 8; i++) {
            add(full, 60, 0);
        }
        due.taken(full, "issue(0, 1, 8, 60), each page full", full.issue(0, 1, 8, 60), 0);
        has(full, 0, 0, 1, 2, 3, 4, 5, 6, 7);
    }

    private void upToTwelve() {
        due.term("promise 19", "up to 12.");
        GazetteHouse x = house();
        for (int i = 0; i < 11; i++) {
            add(x, 1, 0);
        }
        for (int i = 0; i < 3; i++) {
            add(x, 1, 50 - i);
        }
        due.taken(x, "issue(0, 1, 8, 60): eleven that must and one more", x.issue(0, 1, 8, 60), 0);
        has(x, 0, 0, 1, 2, 3, 4, 5, 6, 7, 8, 9, 10, 13);
        due.is("issued(0, 4)", x.issued(0, 4), 2);
        GazetteHouse y = house();
        for (int i = 0; i < 13; i++) {
            add(y, 1, 0);
        }
        due.refused(y, "issue(0, 1, 8, 60) of thirteen that must", y.issue(0, 1, 8, 60), 5);
        y.undo();
        due.taken(y, "issue(0, 1, 8, 60) of twelve that must", y.issue(0, 1, 8, 60), 0);
        has(y, 0, 0, 1, 2, 3, 4, 5, 6, 7, 8, 9, 10, 11);
    }

    private void printedThatDay() {
        due.term("promises 19 and 22 to 28", "All get the day; what they say holds as PRINTED that day, by number.");
        GazetteHouse x = house();
        for (int i = 0; i < 3; i++) {
            add(x, 10, 70 - i);
            x.says(i, 1, 10 + i, 0);
            x.strikes(i, i + 1);
        }
        due.taken(x, "issue(5, 6, 3, 10)", x.issue(5, 6, 3, 10), 0);
        for (int i = 0; i < 3; i++) {
            due.is("isVoid(" + i + ", 4)", x.isVoid(i, 4), -1);
            due.is("isVoid(" + i + ", 5)", x.isVoid(i, 5), 0);
            due.is("struck(" + (i + 1) + ", 4)", x.struck(i + 1, 4), 0);
            due.is("struck(" + (i + 1) + ", 5)", x.struck(i + 1, 5), 1);
        }
        due.is("law(1, 0, 4)", x.law(1, 0, 4), GazetteHouse.NO_LAW);
        due.is("law(1, 0, 5): the greatest number holds, not the latest due", x.law(1, 0, 5), 12);
        due.is("find(x, 4)", x.find(Due.word("x"), 4), 0);
        due.is("find(x, 5)", x.find(Due.word("x"), 5), 3);
        has(x, 0, 0, 1, 2);
    }

    // ---- promise 19

    private void issue() {
        due.promise(19, "An ISSUE of a day (behind the latest one's), the next one on another (behind it; up to 10,000),"
                + " of PAGES 1 .. 8 with 10 .. 60 LINES: its number;");
        GazetteHouse x = house();
        due.taken(x, "issue(0, 1, 1, 10)", x.issue(0, 1, 1, 10), 0);
        due.refused(x, "issue(0, 2, 1, 10) of the latest one's day", x.issue(0, 2, 1, 10), 2);
        due.taken(x, "issue(1, 10000, 8, 60)", x.issue(1, 10_000, 8, 60), 1);
        due.taken(x, "issue(2, 3, 1, 10), ahead of the next that was told", x.issue(2, 3, 1, 10), 2);
        due.taken(x, "issue(50, 51, 1, 10)", x.issue(50, 51, 1, 10), 3);
        due.refused(x, "issue(49, 60, 1, 10), ahead of the latest one's day", x.issue(49, 60, 1, 10), 2);
        due.refused(x, "issue(51, 51, 1, 10): the next is not behind it", x.issue(51, 51, 1, 10), 2);
        due.refused(x, "issue(51, 50, 1, 10)", x.issue(51, 50, 1, 10), 2);
        due.refused(x, "issue(51, 10001, 1, 10)", x.issue(51, 10_001, 1, 10), 2);
        int[] noLines = {9, 61, 0, -1, MIN, MAX};
        for (int lines : noLines) {
            due.refused(x, "issue(51, 52, 1, " + lines + ")", x.issue(51, 52, 1, lines), 2);
        }
        int[] noPages = {0, 9, -1, MIN, MAX};
        for (int pages : noPages) {
            due.refused(x, "issue(51, 52, " + pages + ", 10)", x.issue(51, 52, pages, 10), 2);
        }
        due.is("count(3)", x.count(3), 4);
        due.taken(x, "issue(9998, 9999, 8, 10)", x.issue(9_998, 9_999, 8, 10), 4);
        due.taken(x, "issue(9999, 10000, 1, 60)", x.issue(9_999, 10_000, 1, 60), 5);
        due.refused(x, "issue(10000, 10000, 1, 60)", x.issue(10_000, 10_000, 1, 60), 2);
        due.refused(x, "issue(MAX, MIN, 1, 60)", x.issue(MAX, MIN, 1, 60), 2);
        due.refused(x, "issue(MIN, MAX, 1, 60)", x.issue(MIN, MAX, 1, 60), 2);

        due.promise(19, "no act can be taken back then.");
        GazetteHouse y = house();
        add(y, 20, 500);
        y.feast(3, true);
        due.refused(y, "issue(5, 5, 1, 10)", y.issue(5, 5, 1, 10), 2);
        due.is("count(5): one that is refused changes nothing", y.count(5), 3);
        due.taken(y, "issue(5, 6, 1, 10) of nothing", y.issue(5, 6, 1, 10), 0);
        due.is("count(5)", y.count(5), 0);
        due.is("undo()", y.undo(), 0);
        due.is("working(3)", y.working(3), 0);
        due.is("count(2)", y.count(2), 1);
    }

    private void issueRefusals() {
        due.promise(19, "NONE: 2; 3; 5 (also more than 12 of these, or one of more LINES than a PAGE).");
        GazetteHouse x = house();
        add(x, 11, 0);
        due.refused(x, "issue(0, 1, 8, 10): one of 11 lines", x.issue(0, 1, 8, 10), 5);
        due.refused(x, "issue(0, 1, 8, 9): 2 goes ahead of 5", x.issue(0, 1, 8, 9), 2);
        due.refused(x, "issue(-1, 1, 8, 10): 2 goes ahead of 5", x.issue(-1, 1, 8, 10), 2);
        due.is("about(0, 3)", x.about(0, 3), -1);
        due.is("count(3)", x.count(3), 0);
        due.is("count(5)", x.count(5), 2);
        due.taken(x, "issue(0, 1, 1, 11): what was refused was no issue", x.issue(0, 1, 1, 11), 0);
        add(x, 6, 0);
        add(x, 6, 0);
        add(x, 6, 0);
        due.refused(x, "issue(1, 2, 2, 10): three of 6 on two pages", x.issue(1, 2, 2, 10), 5);
        due.is("count(4)", x.count(4), 3);
        due.taken(x, "issue(1, 2, 3, 10)", x.issue(1, 2, 3, 10), 1);

        GazetteHouse full = house();
        for (int i = 0; i < 40; i++) {
            full.issue(i, i + 1, 1, 10);
        }
        for (int i = 0; i < 13; i++) {
            add(full, 1, 0);
        }
        due.refused(full, "issue(40, 41, 8, 60), the 41st: 3 goes ahead of 5", full.issue(40, 41, 8, 60), 3);
        due.refused(full, "issue(39, 41, 8, 60), the 41st: 2 goes ahead of 3", full.issue(39, 41, 8, 60), 2);
        due.is("count(4)", full.count(4), 13);

        GazetteHouse y = house();
        for (int i = 0; i < 13; i++) {
            add(y, 1, i);
        }
        due.refused(y, "issue(0, 13, 8, 60): thirteen must", y.issue(0, 13, 8, 60), 5);
        due.taken(y, "issue(0, 12, 8, 60): twelve must", y.issue(0, 12, 8, 60), 0);
        add(y, 60, 500);
        due.taken(y, "issue(1, 14, 8, 59): one of the others of more lines than a page", y.issue(1, 14, 8, 59), 1);
        has(y, 1, 12);
    }

    // ---- promises 20 and 21

    private void issued() {
        due.promise(20, "Of an ISSUE, what 0 its day, 1 how many NOTICES,");
        GazetteHouse x = house();
        x.issue(0, 5, 1, 10);
        for (int i = 0; i < 12; i++) {
            add(x, 1, 0);
        }
        x.issue(7, 9_999, 1, 20);
        add(x, 1, 0);
        x.issue(9_999, 10_000, 1, 10);
        int[] days = {0, 7, 9_999};
        int[] sizes = {0, 12, 1};
        for (int i = 0; i < 3; i++) {
            due.is("issued(" + i + ", 0)", x.issued(i, 0), days[i]);
            due.is("issued(" + i + ", 1)", x.issued(i, 1), sizes[i]);
        }
    }

    private void issuedPages() {
        due.promise(20, "2 PAGES that it needs (the fewest),");
        pagesAre(0, 60);
        pagesAre(1, 60, 60);
        pagesAre(1, 10, 1);
        pagesAre(1, 10, 5, 5);
        pagesAre(2, 10, 5, 6);
        pagesAre(2, 10, 5, 5, 1);
        pagesAre(8, 10, 10, 10, 10, 10, 10, 10, 10, 10);
        pagesAre(8, 10, 6, 6, 6, 6, 6, 6, 6, 6, 4, 4, 4, 4);
        pagesAre(6, 60, 30, 30, 30, 30, 30, 30, 30, 30, 30, 30, 30, 30);
        // Two for which it does not do to lay the longest down first.
        pagesAre(3, 60, 30, 20, 20, 15, 15, 12, 8, 30, 30);
        pagesAre(3, 60, 22, 22, 21, 20, 20, 19, 19, 19, 18);
        pagesAre(4, 60, 20, 20, 20, 19, 19, 22, 21, 18, 21, 24, 24, 12);
        pagesAre(5, 60, 20, 20, 20, 19, 19, 22, 21, 18, 21, 24, 24, 13);
    }

    private void pagesAre(int want, int pageLines, int... lines) {
        GazetteHouse x = house();
        for (int one : lines) {
            add(x, one, 0);
        }
        due.taken(x, "issue of " + lines.length, x.issue(0, 1, 8, pageLines), 0);
        due.is("issued(0, 2) of " + java.util.Arrays.toString(lines) + " by " + pageLines, x.issued(0, 2), want);
    }

    private void issuedLateAndWaited() {
        due.promise(20, "3 LATE (NOTICES with DUE ahead of its day),");
        GazetteHouse x = house();
        int[] dues = {0, 4, 5, 6, 70, 9_999};
        for (int day : dues) {
            add(x, 10, day);
        }
        due.taken(x, "issue(5, 7, 5, 10)", x.issue(5, 7, 5, 10), 0);
        due.is("issued(0, 3): what is due on 0 and 4, not on 5", x.issued(0, 3), 2);

        due.promise(20, "4 how many WAITED on.");
        due.is("issued(0, 4)", x.issued(0, 4), 1);
        add(x, 10, 80);
        due.is("issued(0, 4): what came later did not wait then", x.issued(0, 4), 1);
        due.taken(x, "issue(6, 7, 1, 10)", x.issue(6, 7, 1, 10), 1);
        due.is("issued(1, 3)", x.issued(1, 3), 0);
        due.is("issued(1, 4)", x.issued(1, 4), 1);
        due.taken(x, "issue(7, 8, 8, 10)", x.issue(7, 8, 8, 10), 2);
        due.is("issued(2, 4)", x.issued(2, 4), 0);
        due.is("issued(0, 4): it stays as it was", x.issued(0, 4), 1);
    }

    private void issuedNone() {
        due.promise(20, " NONE.");
        GazetteHouse x = house();
        add(x, 10, 0);
        x.issue(0, 1, 1, 10);
        int[] none = {-1, 1, 39, 40, MIN, MAX};
        for (int issue : none) {
            for (int what = 0; what <= 4; what++) {
                due.is("issued(" + issue + ", " + what + ")", x.issued(issue, what), -1);
            }
        }
        int[] noWhat = {-1, 5, MIN, MAX};
        for (int what : noWhat) {
            due.is("issued(0, " + what + ")", x.issued(0, what), -1);
        }
        x.issue(0, 1, 1, 10);
        due.is("issued(1, 0) of one that was refused", x.issued(1, 0), -1);
        for (int day = 1; day < 40; day++) {
            x.issue(day, day + 1, 1, 10);
        }
        due.is("issued(39, 0) of the last of forty", x.issued(39, 0), 39);
        due.is("issued(40, 0) of the 41st", x.issued(40, 0), -1);
    }

    private void printed() {
        due.promise(21, "The i-th NOTICE of an ISSUE, by number; NONE.");
        GazetteHouse x = house();
        for (int i = 0; i < 14; i++) {
            add(x, 1, 100 - i);
        }
        x.issue(0, 1, 1, 20);
        x.issue(1, 2, 1, 20);
        x.issue(2, 3, 1, 20);
        for (int i = 0; i < 12; i++) {
            due.is("printed(0, " + i + ")", x.printed(0, i), i + 2);
        }
        due.is("printed(1, 0)", x.printed(1, 0), 0);
        due.is("printed(1, 1)", x.printed(1, 1), 1);
        due.is("printed(1, 2)", x.printed(1, 2), -1);
        due.is("printed(2, 0) of an issue of nothing", x.printed(2, 0), -1);
        int[] none = {-1, 12, 40, MIN, MAX};
        for (int number : none) {
            due.is("printed(0, " + number + ")", x.printed(0, number), -1);
            due.is("printed(" + number + ", 0)", x.printed(number, 0), -1);
        }
        due.is("printed(3, 0)", x.printed(3, 0), -1);
        for (int day = 3; day < 40; day++) {
            x.issue(day, day + 1, 1, 10);
        }
        due.is("printed(39, 0) of the last of forty", x.printed(39, 0), -1);
        due.is("printed(40, 0) of the 41st", x.printed(40, 0), -1);
    }
}
