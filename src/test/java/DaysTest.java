/** Promises 1 to 4: a new object, feasts and days counted past them. */
public final class DaysTest {
    private static final Due due = new Due();

    public static void main(String[] args) {
        newObject();
        feasts();
        sixtyFeasts();
        workingDays();
        daysBehind();
        workingDaysBehind();
        due.end();
    }

    private static void newObject() {
        due.part("promise 1");
        GazetteHouse x = new GazetteHouse();
        for (int what = 0; what <= 6; what++) {
            due.is("count(" + what + ")", x.count(what), 0);
        }
        due.is("trouble()", x.trouble(), 0);
        due.is("fault()", x.fault(), 0);
        due.is("where()", x.where(), -1);
        due.is("lacks()", x.lacks(), -1);
        due.is("undo()", x.undo(), 0);
        due.is("found(0)", x.found(0), -1);
        due.is("fields(0)", x.fields(0), -1);
        due.is("about(0, 0)", x.about(0, 0), -1);
        due.is("issued(0, 0)", x.issued(0, 0), -1);
        due.is("NO_LAW", GazetteHouse.NO_LAW, -2147483648L);
        due.is("issue(0, 1, 1, 10), the latest day being -1", x.issue(0, 1, 1, 10), 0);
    }

    private static void feasts() {
        due.part("promise 2");
        GazetteHouse x = new GazetteHouse();
        due.refused(x, "feast(-1, true)", x.feast(-1, true), 2);
        due.refused(x, "feast(10000, false)", x.feast(10000, false), 2);
        due.is("feast(0, true)", x.feast(0, true), true);
        due.is("trouble()", x.trouble(), 0);
        due.is("feast(9999, true)", x.feast(9999, true), true);
        due.is("count(0)", x.count(0), 2);
        due.is("feast(63, false), which is none", x.feast(63, false), true);
        due.is("feast(0, true) again", x.feast(0, true), true);
        due.is("count(5): these are no acts", x.count(5), 2);
        due.is("feast(0, false)", x.feast(0, false), true);
        due.is("working(0)", x.working(0), 1);
        due.is("working(9999)", x.working(9999), 0);
        due.is("count(0)", x.count(0), 1);
        due.is("count(5)", x.count(5), 3);
    }

    private static void sixtyFeasts() {
        due.part("promise 2, room");
        GazetteHouse x = new GazetteHouse();
        for (int i = 0; i < 60; i++) {
            due.is("feast(" + i * 3 + ", true)", x.feast(i * 3, true), true);
        }
        due.refused(x, "feast(1, true), the 61st", x.feast(1, true), 3);
        due.is("feast(3, true), which is one", x.feast(3, true), true);
        due.is("trouble()", x.trouble(), 0);
        due.refused(x, "feast(-1, true)", x.feast(-1, true), 2);
        due.is("feast(3, false)", x.feast(3, false), true);
        due.is("feast(1, true)", x.feast(1, true), true);
        due.is("count(0)", x.count(0), 60);
    }

    private static void workingDays() {
        due.part("promise 3");
        GazetteHouse x = new GazetteHouse();
        int[] week = {1, 1, 1, 1, 1, 0, 0};
        for (int day = 0; day < 28; day++) {
            due.is("working(" + day + ")", x.working(day), week[day % 7]);
        }
        due.is("working(9999)", x.working(9999), 1);
        due.refused(x, "working(10000)", x.working(10000), 2);
        due.refused(x, "working(MIN)", x.working(Integer.MIN_VALUE), 2);
        due.is("working(5)", x.working(5), 0);
        due.is("trouble() behind a 0 that is no refusal", x.trouble(), 0);
        x.feast(64, true);
        due.is("working(64)", x.working(64), 0);
        due.is("working(0), 64 days ahead of a feast", x.working(0), 1);
        due.is("working(128)", x.working(128), 1);
    }

    private static void daysBehind() {
        due.part("promise 4, days");
        GazetteHouse x = new GazetteHouse();
        due.is("after(0, 4, false)", x.after(0, 4, false), 4);
        due.is("after(0, 5, false)", x.after(0, 5, false), 7);
        due.is("after(3, 3, false)", x.after(3, 3, false), 7);
        x.feast(7, true);
        x.feast(8, true);
        due.is("after(0, 5, false) past two feasts", x.after(0, 5, false), 9);
        due.is("after(6, 1, false)", x.after(6, 1, false), 9);
        due.is("after(0, 9999, false)", x.after(0, 9999, false), 9999);
        due.is("after(1, 9999, false)", x.after(1, 9999, false), 10000);
        due.is("after(9999, 9999, false)", x.after(9999, 9999, false), 10000);
        x.feast(9999, true);
        due.is("after(0, 9999, false), a feast", x.after(0, 9999, false), 10000);
        due.refused(x, "after(0, -1, false)", x.after(0, -1, false), 2);
        due.refused(x, "after(0, 10000, false)", x.after(0, 10000, false), 2);
        due.refused(x, "after(-1, 0, false)", x.after(-1, 0, false), 2);
        due.refused(x, "after(10000, 0, false)", x.after(10000, 0, false), 2);
        due.is("after(0, 0, false)", x.after(0, 0, false), 0);
        due.is("trouble()", x.trouble(), 0);
    }

    private static void workingDaysBehind() {
        due.part("promise 4, work");
        GazetteHouse x = new GazetteHouse();
        due.is("after(6, 0, true): the day itself", x.after(6, 0, true), 6);
        due.is("after(6, 1, true)", x.after(6, 1, true), 7);
        due.is("after(0, 10, true)", x.after(0, 10, true), 14);
        x.feast(1, true);
        due.is("after(0, 1, true) past a feast", x.after(0, 1, true), 2);
        due.is("after(1, 0, true) of a feast", x.after(1, 0, true), 1);
        due.is("after(0, 10, true) past a feast", x.after(0, 10, true), 15);
        due.is("after(9996, 3, true)", x.after(9996, 3, true), 9999);
        due.is("after(9996, 4, true)", x.after(9996, 4, true), 10000);
        due.is("after(0, 9999, true)", x.after(0, 9999, true), 10000);
        due.refused(x, "after(0, -1, true)", x.after(0, -1, true), 2);
        due.refused(x, "after(10000, 0, true)", x.after(10000, 0, true), 2);
    }
}
