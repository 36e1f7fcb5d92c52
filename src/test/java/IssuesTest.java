/** Promises 19 to 21: issues made up of what is due and what fits. */
public final class IssuesTest {
    private static final Due due = new Due();

    public static void main(String[] args) {
        numbers();
        fortyIssues();
        mustAndOthers();
        othersByDue();
        skipsWhatDoesNotFit();
        mustNotFit();
        twelveAtMost();
        fewestPages();
        lateAndWaiting();
        due.end();
    }

    private static GazetteHouse house() {
        GazetteHouse x = new GazetteHouse();
        Due.form(x, "a: day");
        return x;
    }

    private static void add(GazetteHouse x, int lines, int dueDay) {
        Due.notice(x, 0, "a=1", lines, dueDay);
    }

    private static void listed(GazetteHouse x, int issue, int... want) {
        due.is("issued(" + issue + ", 1)", x.issued(issue, 1), want.length);
        for (int i = 0; i < want.length; i++) {
            due.is("printed(" + issue + ", " + i + ")", x.printed(issue, i), want[i]);
            due.is("about(" + want[i] + ", 3)", x.about(want[i], 3), issue);
        }
        due.is("printed(" + issue + ", " + want.length + ")", x.printed(issue, want.length), -1);
        due.is("printed(" + issue + ", -1)", x.printed(issue, -1), -1);
    }

    private static void numbers() {
        due.part("promise 19, numbers");
        GazetteHouse x = house();
        due.refused(x, "issue(-1, 5, 1, 10)", x.issue(-1, 5, 1, 10), 2);
        due.refused(x, "issue(10000, 10001, 1, 10)", x.issue(10000, 10001, 1, 10), 2);
        due.refused(x, "issue(5, 5, 1, 10)", x.issue(5, 5, 1, 10), 2);
        due.refused(x, "issue(5, 10001, 1, 10)", x.issue(5, 10001, 1, 10), 2);
        due.refused(x, "issue(5, 6, 0, 10)", x.issue(5, 6, 0, 10), 2);
        due.refused(x, "issue(5, 6, 9, 10)", x.issue(5, 6, 9, 10), 2);
        due.refused(x, "issue(5, 6, 1, 9)", x.issue(5, 6, 1, 9), 2);
        due.refused(x, "issue(5, 6, 1, 61)", x.issue(5, 6, 1, 61), 2);
        due.is("count(3)", x.count(3), 0);
        due.is("issue(5, 10000, 8, 60) of nothing", x.issue(5, 10000, 8, 60), 0);
        due.is("trouble()", x.trouble(), 0);
        listed(x, 0);
        due.is("issued(0, 2)", x.issued(0, 2), 0);
        due.refused(x, "issue(5, 6, 1, 10): not behind the latest", x.issue(5, 6, 1, 10), 2);
        due.is("issue(6, 7, 1, 10): ahead of the next that was told", x.issue(6, 7, 1, 10), 1);
        due.is("issue(9999, 10000, 1, 10)", x.issue(9999, 10000, 1, 10), 2);
        due.refused(x, "issue(9999, 10000, 1, 10)", x.issue(9999, 10000, 1, 10), 2);
        due.is("issued(2, 0)", x.issued(2, 0), 9999);
        due.is("issued(2, 5)", x.issued(2, 5), -1);
        due.is("issued(2, -1)", x.issued(2, -1), -1);
        due.is("issued(3, 0)", x.issued(3, 0), -1);
        due.is("issued(-1, 0)", x.issued(-1, 0), -1);
        due.is("printed(3, 0)", x.printed(3, 0), -1);
        due.is("printed(-1, 0)", x.printed(-1, 0), -1);
    }

    private static void fortyIssues() {
        due.part("promise 19, room");
        GazetteHouse x = house();
        add(x, 60, 5000);
        for (int i = 0; i < 40; i++) {
            due.is("issue", x.issue(i, i + 1, 1, 10), i);
        }
        due.refused(x, "issue, the 41st", x.issue(40, 9999, 1, 10), 3);
        due.refused(x, "issue, the 41st with a bad number", x.issue(39, 9999, 1, 10), 2);
        due.is("count(3)", x.count(3), 40);
        due.is("issued(39, 0)", x.issued(39, 0), 39);
        due.is("issued(40, 0)", x.issued(40, 0), -1);
        due.is("printed(40, 0)", x.printed(40, 0), -1);
    }

    private static void mustAndOthers() {
        due.part("promise 19, must");
        GazetteHouse x = house();
        add(x, 30, 50);
        add(x, 30, 19);
        add(x, 30, 20);
        add(x, 30, 0);
        due.is("issue", x.issue(10, 20, 1, 60), 0);
        listed(x, 0, 1, 3);
        due.is("count(4)", x.count(4), 2);
        due.is("issue", x.issue(11, 12, 1, 30), 1);
        listed(x, 1, 2);
        due.is("issue", x.issue(12, 51, 1, 30), 2);
        listed(x, 2, 0);
        add(x, 10, 14);
        due.is("issue: what is due on the next day is taken if it fits", x.issue(13, 14, 1, 10), 3);
        listed(x, 3, 4);
    }

    private static void othersByDue() {
        due.part("promise 19, others by due");
        GazetteHouse x = house();
        add(x, 10, 90);
        add(x, 10, 80);
        add(x, 10, 80);
        add(x, 10, 70);
        due.is("issue", x.issue(0, 1, 2, 10), 0);
        listed(x, 0, 1, 3);
        due.is("issue", x.issue(1, 2, 2, 10), 1);
        listed(x, 1, 0, 2);
    }

    private static void skipsWhatDoesNotFit() {
        due.part("promise 19, each that goes in");
        GazetteHouse x = house();
        add(x, 20, 0);
        add(x, 11, 70);
        add(x, 6, 71);
        add(x, 5, 72);
        add(x, 4, 73);
        add(x, 60, 60);
        due.is("issue", x.issue(0, 1, 1, 30), 0);
        listed(x, 0, 0, 2, 4);
        due.is("issued(0, 4)", x.issued(0, 4), 3);
        due.is("issued(0, 2)", x.issued(0, 2), 1);
    }

    private static void mustNotFit() {
        due.part("promise 19, must does not go in");
        GazetteHouse x = house();
        add(x, 11, 0);
        due.refused(x, "one of more lines than a page", x.issue(0, 1, 8, 10), 5);
        add(x, 6, 0);
        add(x, 5, 0);
        due.refused(x, "three of 22 lines on 2 pages of 11", x.issue(0, 1, 2, 10), 5);
        due.is("count(3)", x.count(3), 0);
        due.is("count(4)", x.count(4), 3);
        due.is("count(5): nothing was cleared", x.count(5), 4);
        due.is("about(0, 3)", x.about(0, 3), -1);
        due.is("issue", x.issue(0, 1, 2, 11), 0);
        listed(x, 0, 0, 1, 2);
        add(x, 6, 0);
        add(x, 6, 0);
        add(x, 6, 0);
        due.refused(x, "three of 6 on 2 pages of 10", x.issue(1, 2, 2, 10), 5);
        due.is("issue", x.issue(1, 2, 3, 10), 1);
        due.is("issued(1, 2)", x.issued(1, 2), 3);
    }

    private static void twelveAtMost() {
        due.part("promise 19, twelve");
        GazetteHouse x = house();
        for (int i = 0; i < 12; i++) {
            add(x, 1, i);
        }
        add(x, 1, 12);
        due.refused(x, "thirteen that must", x.issue(0, 13, 8, 60), 5);
        due.is("twelve that must", x.issue(0, 12, 8, 60), 0);
        listed(x, 0, 0, 1, 2, 3, 4, 5, 6, 7, 8, 9, 10, 11);
        due.is("issued(0, 4)", x.issued(0, 4), 1);
        for (int i = 0; i < 14; i++) {
            add(x, 1, 100 - i);
        }
        due.is("one that must and eleven others", x.issue(1, 13, 8, 60), 1);
        listed(x, 1, 12, 16, 17, 18, 19, 20, 21, 22, 23, 24, 25, 26);
        due.is("printed(1, 12)", x.printed(1, 12), -1);
    }

    private static void fewestPages() {
        due.part("promise 20, the fewest pages");
        GazetteHouse x = house();
        // Laid down by falling length, these would need a fourth page.
        int[] lines = {30, 20, 20, 15, 15, 12, 8, 30, 30};
        for (int i = 0; i < lines.length; i++) {
            add(x, lines[i], 0);
        }
        due.is("issue on 3 pages", x.issue(0, 1, 3, 60), 0);
        due.is("issued(0, 2)", x.issued(0, 2), 3);
        int[] hard = {22, 22, 21, 20, 20, 19, 19, 19, 18};
        for (int i = 0; i < hard.length; i++) {
            add(x, hard[i], 0);
        }
        due.is("issue on 3 pages, each full", x.issue(1, 2, 3, 60), 1);
        due.is("issued(1, 2)", x.issued(1, 2), 3);
        add(x, 5, 0);
        add(x, 5, 0);
        due.is("issue on 8 pages, needing one", x.issue(2, 3, 8, 10), 2);
        due.is("issued(2, 2)", x.issued(2, 2), 1);
    }

    private static void lateAndWaiting() {
        due.part("promise 20, late and waiting");
        GazetteHouse x = house();
        add(x, 10, 4);
        add(x, 10, 5);
        add(x, 10, 6);
        add(x, 10, 70);
        add(x, 10, 80);
        due.is("issue", x.issue(5, 7, 3, 10), 0);
        due.is("issued(0, 0)", x.issued(0, 0), 5);
        due.is("issued(0, 1)", x.issued(0, 1), 3);
        due.is("issued(0, 3): due 4 alone is ahead of day 5", x.issued(0, 3), 1);
        due.is("issued(0, 4)", x.issued(0, 4), 2);
        add(x, 10, 90);
        due.is("issued(0, 4) tells what waited then", x.issued(0, 4), 2);
        due.is("issue", x.issue(75, 76, 8, 10), 1);
        due.is("issued(1, 3)", x.issued(1, 3), 1);
        due.is("issued(1, 4)", x.issued(1, 4), 0);
        listed(x, 1, 3, 4, 5);
    }
}
