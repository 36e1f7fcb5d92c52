/** Term I and promises 1 to 4, sentence by sentence. */
final class DaysSentences {
    private static final int MIN = Integer.MIN_VALUE;
    private static final int MAX = Integer.MAX_VALUE;
    private static final int NO_LAW = GazetteHouse.NO_LAW;
    private static final int[] NO_DAYS = {-1, 10_000, MIN, MAX};
    private static final long X = Due.word("x");
    private final Due due;

    DaysSentences(Due due) {
        this.due = due;
    }

    void all() {
        days();
        weeks();
        bounds();
        newObject();
        feast();
        working();
        after();
    }

    // ---- Term I

    private void days() {
        due.term("promises 2 to 4, 7, 15, 19 and 22 to 28", "DAYS 0 .. 9,999;");
        for (int day : NO_DAYS) {
            noDay(day);
        }
        aDay(0);
        aDay(9_999);
    }

    /** Notice 0 is printed on day 0 and says what can be asked for; notice 1 waits. */
    private static GazetteHouse houseOfDayZero() {
        GazetteHouse x = Due.house("a: word");
        Due.notice(x, 0, "a=x", 10, 0);
        x.says(0, 1, 5, 0);
        x.strikes(0, X);
        x.issue(0, 1, 1, 10);
        Due.notice(x, 0, "a=x", 10, 9_999);
        return x;
    }

    private void noDay(int day) {
        GazetteHouse x = houseOfDayZero();
        due.refused(x, "feast(" + day + ", true)", x.feast(day, true), 2);
        due.refused(x, "feast(" + day + ", false)", x.feast(day, false), 2);
        due.refused(x, "working(" + day + ")", x.working(day), 2);
        due.refused(x, "after(" + day + ", 0, false)", x.after(day, 0, false), 2);
        due.refused(x, "after(" + day + ", 0, true)", x.after(day, 0, true), 2);
        due.refused(x, "notice due on " + day, Due.notice(x, 0, "a=x", 1, day), 2);
        due.refused(x, "says from " + day, x.says(1, 1, 5, day), 2);
        due.refused(x, "issue of " + day, x.issue(day, 10_000, 8, 60), 2);
        due.is("law for " + day, x.law(1, day, 0), NO_LAW);
        due.is("law known on " + day, x.law(1, 0, day), NO_LAW);
        due.is("source for " + day, x.source(1, day, 0), -1);
        due.is("source known on " + day, x.source(1, 0, day), -1);
        due.is("isVoid known on " + day, x.isVoid(0, day), -1);
        due.is("changes known on " + day, x.changes(1, day), -1);
        due.is("find known on " + day, x.find(X, day), -1);
        due.is("struck known on " + day, x.struck(X, day), -1);
        due.is("count(0)", x.count(0), 0);
        due.is("count(2)", x.count(2), 2);
        due.is("count(3)", x.count(3), 1);
    }

    private void aDay(int day) {
        GazetteHouse x = Due.house("a: word");
        due.taken(x, "feast(" + day + ", true)", x.feast(day, true));
        due.taken(x, "working(" + day + ")", x.working(day), 0);
        due.taken(x, "feast(" + day + ", false)", x.feast(day, false));
        due.taken(x, "working(" + day + ")", x.working(day), 1);
        due.taken(x, "after(" + day + ", 0, false)", x.after(day, 0, false), day);
        due.taken(x, "after(" + day + ", 0, true)", x.after(day, 0, true), day);
        due.taken(x, "notice due on " + day, Due.notice(x, 0, "a=x", 10, day), 0);
        due.taken(x, "says from " + day, x.says(0, 1, 5, day), 1);
        x.strikes(0, X);
        due.taken(x, "issue of " + day, x.issue(day, day + 1, 1, 10), 0);
        due.is("law for " + day, x.law(1, day, day), 5);
        due.is("source for " + day, x.source(1, day, day), 0);
        due.is("isVoid known on " + day, x.isVoid(0, day), 0);
        due.is("changes known on " + day, x.changes(1, day), 1);
        due.is("find known on " + day, x.find(X, day), 1);
        due.is("struck known on " + day, x.struck(X, day), 1);
    }

    private void weeks() {
        due.term("promises 3, 4 and 13", "day 0 is a Monday.");
        GazetteHouse x = new GazetteHouse();
        int[] week = {1, 1, 1, 1, 1, 0, 0};
        for (int day = 0; day < week.length; day++) {
            due.is("working(" + day + ")", x.working(day), week[day]);
        }

        due.term("promises 3, 4 and 13", "A WORKING day is none of the last two of a week"
                + " (days with a rest of 5 or 6 by 7), and no FEAST.");
        for (int day = 0; day <= 9_999; day += day == 70 ? 9_870 : 1) {
            due.is("working(" + day + ")", x.working(day), week[day % 7]);
        }
        x.feast(7, true);
        x.feast(12, true);
        due.is("working(7), a feast on a Monday", x.working(7), 0);
        due.is("working(6), ahead of a feast", x.working(6), 0);
        due.is("working(8), behind a feast", x.working(8), 1);
        x.feast(7, false);
        x.feast(12, false);
        due.is("working(7), a feast no more", x.working(7), 1);
        due.is("working(12), a Saturday that is a feast no more", x.working(12), 0);
    }

    private void bounds() {
        due.term("promise 6", "BOUNDS: FORMS 12 of 8 FIELDS");
        twelveForms();
        due.goodForm("a:day;b:day;c:day;d:day;e:day;f:day;g:day;h:day");
        due.badForm(5, "a:day;b:day;c:day;d:day;e:day;f:day;g:day;h:day;^i:day");
        due.term("promise 7", "NOTICES 60");
        sixtyNotices();
        due.term("promise 15", "of each 4 LAWS");
        fourLaws();
        due.term("promise 2", "FEASTS 60");
        sixtyFeasts();
        due.term("promise 19", "ISSUES 40 of 12 NOTICES");
        fortyIssues();
        twelveOfAnIssue();
        due.term("promises 15, 22, 23 and 25", "KEYS 0 .. 39");
        keys();
        due.term("promise 29", "the latest 100 acts can be taken back.");
        hundredActs();
    }

    private void twelveForms() {
        GazetteHouse x = new GazetteHouse();
        for (int i = 0; i < 12; i++) {
            due.taken(x, "form", Due.form(x, "a: num " + i + "..99"), i);
        }
        due.refused(x, "form, the 13th", Due.form(x, "a: day; b: day"), 3);
        due.is("count(1)", x.count(1), 12);
        due.is("fields(11)", x.fields(11), 1);
        due.is("fields(12)", x.fields(12), -1);
        due.is("field(11, 0, 2)", x.field(11, 0, 2), 11);
    }

    private void sixtyNotices() {
        GazetteHouse x = Due.house("a: day");
        for (int i = 0; i < 60; i++) {
            due.taken(x, "notice", Due.notice(x, 0, "a=" + i, 1, 0), i);
        }
        due.refused(x, "notice, the 61st", Due.notice(x, 0, "a=99", 2, 1), 3);
        due.is("count(2)", x.count(2), 60);
        due.is("value(59, 0)", x.value(59, 0), 59);
        due.is("value(60, 0)", x.value(60, 0), -1);
        due.is("about(60, 1)", x.about(60, 1), -1);
        x.issue(0, 1, 8, 60);
        due.is("those that wait are sixty, too many for an issue", x.trouble(), 5);
        due.refused(x, "notice, the 61st", Due.notice(x, 0, "a=99", 2, 1), 3);
    }

    private void fourLaws() {
        GazetteHouse x = Due.house("a: day");
        Due.notice(x, 0, "a=1", 1, 0);
        Due.notice(x, 0, "a=1", 1, 0);
        for (int i = 1; i <= 4; i++) {
            due.taken(x, "says", x.says(0, 0, 7, 0), i);
        }
        due.refused(x, "says, the fifth", x.says(0, 0, 8, 0), 3);
        due.is("about(0, 4)", x.about(0, 4), 4);
        due.taken(x, "says of another notice", x.says(1, 0, 7, 0), 1);
    }

    private void sixtyFeasts() {
        GazetteHouse x = new GazetteHouse();
        for (int i = 0; i < 60; i++) {
            due.taken(x, "feast(" + i * 169 + ", true)", x.feast(i * 169, true));
        }
        due.refused(x, "feast(1, true), the 61st", x.feast(1, true), 3);
        due.is("working(1)", x.working(1), 1);
        due.is("count(0)", x.count(0), 60);
        due.taken(x, "feast(169, false)", x.feast(169, false));
        due.taken(x, "feast(1, true), the 60th again", x.feast(1, true));
        due.refused(x, "feast(169, true)", x.feast(169, true), 3);
    }

    private void fortyIssues() {
        GazetteHouse x = Due.house("a: day");
        for (int i = 0; i < 40; i++) {
            due.taken(x, "issue(" + i + ", ..)", x.issue(i, i + 1, 1, 10), i);
        }
        due.refused(x, "issue, the 41st", x.issue(40, 41, 1, 10), 3);
        due.is("count(3)", x.count(3), 40);
        due.is("issued(39, 0)", x.issued(39, 0), 39);
        due.is("issued(40, 0)", x.issued(40, 0), -1);
    }

    private void twelveOfAnIssue() {
        GazetteHouse x = Due.house("a: day");
        for (int i = 0; i < 14; i++) {
            Due.notice(x, 0, "a=1", 1, 100);
        }
        due.taken(x, "issue", x.issue(0, 1, 8, 60), 0);
        due.is("issued(0, 1)", x.issued(0, 1), 12);
        due.is("printed(0, 11)", x.printed(0, 11), 11);
        due.is("printed(0, 12)", x.printed(0, 12), -1);
        due.is("about(12, 3)", x.about(12, 3), -1);
    }

    private void keys() {
        GazetteHouse x = Due.house("a: day");
        Due.notice(x, 0, "a=1", 1, 0);
        int[] none = {-1, 40, MIN, MAX};
        for (int key : none) {
            due.refused(x, "says of key " + key, x.says(0, key, 5, 0), 2);
        }
        due.taken(x, "says of key 0", x.says(0, 0, 5, 0), 1);
        due.taken(x, "says of key 39", x.says(0, 39, 6, 0), 2);
        x.issue(0, 1, 1, 10);
        due.is("law(0, 0, 0)", x.law(0, 0, 0), 5);
        due.is("law(39, 0, 0)", x.law(39, 0, 0), 6);
        due.is("source(39, 0, 0)", x.source(39, 0, 0), 0);
        due.is("changes(39, 0)", x.changes(39, 0), 1);
        for (int key : none) {
            due.is("law of key " + key, x.law(key, 0, 0), NO_LAW);
            due.is("source of key " + key, x.source(key, 0, 0), -1);
            due.is("changes of key " + key, x.changes(key, 0), -1);
        }
    }

    private void hundredActs() {
        GazetteHouse x = new GazetteHouse();
        x.feast(0, true);
        for (int i = 1; i <= 99; i++) {
            x.feast(1, i % 2 != 0);
        }
        due.is("count(5)", x.count(5), 100);
        x.feast(2, true);
        due.is("count(5) behind the 101st", x.count(5), 100);
        for (int i = 0; i < 100; i++) {
            due.is("undo()", x.undo(), 1);
        }
        due.is("undo(), the 101st", x.undo(), 0);
        due.is("working(0): the oldest of 101 acts stays", x.working(0), 0);
        due.is("count(0)", x.count(0), 1);
    }

    // ---- promises 1 to 4

    private void newObject() {
        due.promise(1, "Nothing is there;");
        GazetteHouse x = new GazetteHouse();
        for (int what = 0; what <= 6; what++) {
            due.is("count(" + what + ")", x.count(what), 0);
        }
        due.is("trouble()", x.trouble(), 0);
        due.is("fault()", x.fault(), 0);
        due.is("where()", x.where(), -1);
        due.is("lacks()", x.lacks(), -1);
        due.is("fields(0)", x.fields(0), -1);
        due.is("field(0, 0, 0)", x.field(0, 0, 0), -1);
        due.is("value(0, 0)", x.value(0, 0), -1);
        due.is("about(0, 0)", x.about(0, 0), -1);
        due.is("issued(0, 0)", x.issued(0, 0), -1);
        due.is("printed(0, 0)", x.printed(0, 0), -1);
        due.is("law(0, 9999, 9999)", x.law(0, 9_999, 9_999), NO_LAW);
        due.is("source(0, 9999, 9999)", x.source(0, 9_999, 9_999), -1);
        due.is("isVoid(0, 9999)", x.isVoid(0, 9_999), -1);
        due.is("changes(0, 9999)", x.changes(0, 9_999), 0);
        due.is("found(0)", x.found(0), -1);
        due.is("find(x, 9999)", x.find(X, 9_999), 0);
        due.is("struck(x, 9999)", x.struck(X, 9_999), 0);
        due.is("undo()", x.undo(), 0);
        due.is("form(1) of an empty tape", x.form(1), -1);

        due.promise(1, "the latest ISSUE's day is -1.");
        GazetteHouse y = new GazetteHouse();
        due.refused(y, "issue(-1, 1, 1, 10)", y.issue(-1, 1, 1, 10), 2);
        due.taken(y, "issue(0, 1, 1, 10), behind -1", y.issue(0, 1, 1, 10), 0);
    }

    private void feast() {
        due.promise(2, "A day is a FEAST, or no more: true; false: 2; 3.");
        GazetteHouse x = new GazetteHouse();
        due.taken(x, "feast(3, true)", x.feast(3, true));
        due.is("working(3)", x.working(3), 0);
        due.taken(x, "feast(3, false)", x.feast(3, false));
        due.is("working(3)", x.working(3), 1);
        for (int i = 0; i < 60; i++) {
            x.feast(i, true);
        }
        due.refused(x, "feast(60, true) of no room", x.feast(60, true), 3);
        due.refused(x, "feast(10000, true): 2 goes ahead of 3", x.feast(10_000, true), 2);
        due.refused(x, "feast(-1, false)", x.feast(-1, false), 2);
        due.is("count(0)", x.count(0), 60);
        due.is("count(5): what was refused is no act", x.count(5), 62);

        due.promise(2, "(Of one that is so already it is no act: true.)");
        due.taken(x, "feast(59, true) in a full house", x.feast(59, true));
        due.taken(x, "feast(60, false)", x.feast(60, false));
        due.is("count(5)", x.count(5), 62);
        due.is("undo()", x.undo(), 1);
        due.is("working(59): its being made a feast was the latest act", x.working(59), 1);
    }

    private void working() {
        due.promise(3, "Whether a day is a WORKING one: 1, 0; NONE (2).");
        GazetteHouse x = new GazetteHouse();
        x.feast(9_999, true);
        due.taken(x, "working(0)", x.working(0), 1);
        due.taken(x, "working(6)", x.working(6), 0);
        due.taken(x, "working(9998)", x.working(9_998), 1);
        due.taken(x, "working(9999)", x.working(9_999), 0);
        for (int day : NO_DAYS) {
            due.refused(x, "working(" + day + ")", x.working(day), 2);
        }
    }

    private void after() {
        due.promise(4, "The day that is n WORKING days (work), or n days and on to a WORKING one, behind a day; as a SPAN.");
        GazetteHouse x = new GazetteHouse();
        x.feast(7, true);
        due.taken(x, "after(4, 0, true) of a working day", x.after(4, 0, true), 4);
        due.taken(x, "after(6, 0, true) of a Sunday", x.after(6, 0, true), 6);
        due.taken(x, "after(7, 0, true) of a feast", x.after(7, 0, true), 7);
        due.taken(x, "after(4, 1, true) past a Sunday and a feast", x.after(4, 1, true), 8);
        due.taken(x, "after(6, 2, true)", x.after(6, 2, true), 9);
        due.taken(x, "after(4, 0, false) of a working day", x.after(4, 0, false), 4);
        due.taken(x, "after(6, 0, false) of a Sunday ahead of a feast", x.after(6, 0, false), 8);
        due.taken(x, "after(4, 1, false)", x.after(4, 1, false), 8);
        due.taken(x, "after(4, 5, false)", x.after(4, 5, false), 9);
        due.taken(x, "after(9998, 1, true)", x.after(9_998, 1, true), 9_999);
        due.taken(x, "after(9998, 2, true) is beyond", x.after(9_998, 2, true), 10_000);
        due.taken(x, "after(9998, 1, false)", x.after(9_998, 1, false), 9_999);
        due.taken(x, "after(9998, 2, false) is beyond", x.after(9_998, 2, false), 10_000);
        x.feast(9_999, true);
        due.taken(x, "after(9999, 0, false) of the last day, a feast", x.after(9_999, 0, false), 10_000);
        due.taken(x, "after(9999, 0, true) of the last day, a feast", x.after(9_999, 0, true), 9_999);
        due.taken(x, "after(9998, 1, true): the last day is a feast", x.after(9_998, 1, true), 10_000);

        due.promise(4, "NONE (2) if n isn't 0 .. 9,999, or there is no such day.");
        GazetteHouse y = new GazetteHouse();
        int[] none = {-1, 10_000, MIN, MAX};
        for (int n : none) {
            due.refused(y, "after(0, " + n + ", true)", y.after(0, n, true), 2);
            due.refused(y, "after(0, " + n + ", false)", y.after(0, n, false), 2);
        }
        for (int day : NO_DAYS) {
            due.refused(y, "after(" + day + ", 0, true)", y.after(day, 0, true), 2);
            due.refused(y, "after(" + day + ", 0, false)", y.after(day, 0, false), 2);
        }
        due.taken(y, "after(0, 9999, false)", y.after(0, 9_999, false), 9_999);
        due.taken(y, "after(0, 9999, true)", y.after(0, 9_999, true), 10_000);
        due.taken(y, "after(9999, 9999, false)", y.after(9_999, 9_999, false), 10_000);
        due.taken(y, "after(9999, 9999, true)", y.after(9_999, 9_999, true), 10_000);
    }
}
