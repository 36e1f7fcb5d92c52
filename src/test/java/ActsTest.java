/** Promises 29 to 31: acts taken back, counts and troubles. */
public final class ActsTest {
    private static final Due due = new Due();

    public static void main(String[] args) {
        eachAct();
        replacedOnes();
        refusedOnesAreNoActs();
        hundred();
        behindTheIssue();
        tapeAndFaultStay();
        counts();
        troubles();
        due.end();
    }

    private static GazetteHouse house() {
        GazetteHouse x = new GazetteHouse();
        Due.form(x, "a: day");
        Due.notice(x, 0, "a=1", 1, 50);
        Due.notice(x, 0, "a=2", 2, 50);
        return x;
    }

    private static void eachAct() {
        due.part("promise 29, each act");
        GazetteHouse x = house();
        x.says(1, 1, 5, 5);
        x.corrects(1, 0);
        x.renames(1, 1, 2);
        x.strikes(1, 3);
        x.feast(3, true);
        x.feast(3, false);
        due.is("count(5)", x.count(5), 9);
        due.is("undo() of a feast no more", x.undo(), 1);
        due.is("working(3)", x.working(3), 0);
        due.is("undo() of a feast", x.undo(), 1);
        due.is("working(3)", x.working(3), 1);
        due.is("undo() of strikes", x.undo(), 1);
        due.is("about(1, 7)", x.about(1, 7), 0);
        due.is("undo() of renames", x.undo(), 1);
        due.is("about(1, 6)", x.about(1, 6), 0);
        due.is("undo() of corrects", x.undo(), 1);
        due.is("about(1, 5)", x.about(1, 5), -1);
        due.is("undo() of says", x.undo(), 1);
        due.is("about(1, 4)", x.about(1, 4), 0);
        due.is("undo() of notice", x.undo(), 1);
        due.is("about(1, 0)", x.about(1, 0), -1);
        due.is("about(0, 0)", x.about(0, 0), 0);
        due.is("undo() of notice", x.undo(), 1);
        due.is("undo() of form", x.undo(), 1);
        due.is("fields(0)", x.fields(0), -1);
        due.is("undo() of nothing", x.undo(), 0);
        due.is("count(5)", x.count(5), 0);
        due.is("form gets the number again", Due.form(x, "b: word"), 0);
        due.is("notice gets the number again", Due.notice(x, 0, "b=q", 1, 50), 0);
        due.is("value(0, 0)", x.value(0, 0), 17);
        due.is("about(0, 4)", x.about(0, 4), 0);
    }

    private static void replacedOnes() {
        due.part("promise 29, what was in its place comes back");
        GazetteHouse x = house();
        Due.notice(x, 0, "a=3", 3, 50);
        x.corrects(2, 0);
        x.corrects(2, 1);
        x.undo();
        due.is("about(2, 5)", x.about(2, 5), 0);
        x.strikes(2, 1);
        x.strikes(2, 2);
        x.undo();
        Due.form(x, "a: word");
        Due.notice(x, 1, "a=x", 1, 50);
        x.renames(2, Due.word("x"), Due.word("y"));
        x.renames(2, Due.word("v"), Due.word("w"));
        x.undo();
        x.says(2, 1, 1, 1);
        x.says(2, 1, 2, 1);
        x.undo();
        x.issue(0, 1, 1, 60);
        due.is("struck(a, 0)", x.struck(1, 0), 1);
        due.is("struck(b, 0)", x.struck(2, 0), 0);
        due.is("find(y, 0)", x.find(Due.word("y"), 0), 1);
        due.is("law(1, 1, 0)", x.law(1, 1, 0), 1);
        GazetteHouse y = house();
        y.corrects(1, 0);
        y.undo();
        y.undo();
        Due.notice(y, 0, "a=4", 4, 50);
        due.is("a new notice has nothing of the one taken back", y.about(1, 5), -1);
    }

    private static void refusedOnesAreNoActs() {
        due.part("promise 29, what was refused");
        GazetteHouse x = house();
        x.says(1, 40, 5, 5);
        x.corrects(1, 1);
        x.renames(1, 1, 1);
        x.strikes(1, 0);
        x.feast(-1, true);
        x.feast(8, false);
        Due.form(x, "@");
        Due.notice(x, 0, "@", 1, 1);
        x.issue(5, 5, 5, 5);
        x.working(1);
        due.is("count(5)", x.count(5), 3);
        due.is("undo()", x.undo(), 1);
        due.is("count(2)", x.count(2), 1);
    }

    private static void hundred() {
        due.part("promise 29, a hundred");
        GazetteHouse x = house();
        for (int i = 0; i < 140; i++) {
            due.is("corrects", x.corrects(1, 0), true);
        }
        due.is("count(5)", x.count(5), 100);
        x.feast(1, true);
        due.is("count(5)", x.count(5), 100);
        for (int i = 0; i < 100; i++) {
            due.is("undo()", x.undo(), 1);
            due.is("count(5)", x.count(5), 99 - i);
        }
        due.is("undo(), the 101st", x.undo(), 0);
        due.is("about(1, 5): what is too old stays", x.about(1, 5), 0);
        due.is("working(1)", x.working(1), 1);
        due.is("count(2)", x.count(2), 2);
    }

    private static void behindTheIssue() {
        due.part("promise 29, behind the latest issue");
        GazetteHouse x = house();
        x.feast(3, true);
        due.is("issue", x.issue(0, 1, 1, 10), 0);
        due.is("count(5)", x.count(5), 0);
        due.is("undo()", x.undo(), 0);
        due.is("working(3)", x.working(3), 0);
        x.feast(4, true);
        due.is("count(5)", x.count(5), 1);
        due.is("undo()", x.undo(), 1);
        due.is("undo()", x.undo(), 0);
        due.is("working(4)", x.working(4), 1);
        due.is("count(0)", x.count(0), 1);
    }

    private static void tapeAndFaultStay() {
        due.part("promise 29, what is no act stays");
        GazetteHouse x = house();
        Due.form(x, "a: dax");
        Due.feed(x, "b: day");
        due.is("undo()", x.undo(), 1);
        due.is("count(6)", x.count(6), 20);
        due.is("trouble()", x.trouble(), 4);
        due.is("fault()", x.fault(), 1);
        due.is("where()", x.where(), 3);
        due.is("form(6)", x.form(6), 1);
        due.is("undo()", x.undo(), 1);
        due.is("count(6): a text that was read does not come back", x.count(6), 0);
    }

    private static void counts() {
        due.part("promise 30");
        GazetteHouse x = house();
        x.feast(3, true);
        x.feast(4, true);
        Due.form(x, "c: day");
        Due.form(x, "d: day");
        Due.notice(x, 0, "a=2", 10, 60);
        Due.notice(x, 0, "a=2", 10, 60);
        x.issue(0, 1, 1, 10);
        x.issue(1, 2, 1, 10);
        x.feast(8, true);
        x.feed(0, 0, 0, 0, 0);
        x.feed(0, 0, 0, 0, 0);
        int[] want = {3, 3, 4, 2, 1, 1, 40};
        for (int what = 0; what < want.length; what++) {
            due.is("count(" + what + ")", x.count(what), want[what]);
        }
        due.is("count(7)", x.count(7), -1);
        due.is("count(-1)", x.count(-1), -1);
        due.is("count(MIN)", x.count(Integer.MIN_VALUE), -1);
    }

    private static void troubles() {
        due.part("promise 31");
        GazetteHouse x = house();
        due.is("trouble()", x.trouble(), 0);
        x.notice(5, 0, 1, 1);
        due.is("trouble() 1", x.trouble(), 1);
        x.fields(0);
        x.about(0, 0);
        x.value(0, 0);
        x.count(0);
        x.law(-1, 0, 0);
        x.find(0, 0);
        x.undo();
        x.found(9);
        due.is("trouble() behind calls that tell no trouble", x.trouble(), 1);
        due.is("trouble() again", x.trouble(), 1);
        x.after(0, 0, true);
        due.is("trouble() behind one that was accepted", x.trouble(), 0);
        x.strikes(0, 1);
        due.is("trouble() behind strikes", x.trouble(), 0);
        x.issue(0, 0, 0, 0);
        due.is("trouble() 2", x.trouble(), 2);
        x.issue(0, 51, 1, 10);
        due.is("trouble() behind an issue", x.trouble(), 0);
        x.strikes(0, 1);
        due.is("trouble() 6", x.trouble(), 6);
        Due.notice(x, 0, "a=2", 11, 5);
        x.issue(1, 51, 1, 10);
        due.is("trouble() 5", x.trouble(), 5);
        x.form(0);
        due.is("trouble() 4", x.trouble(), 4);
        x.feast(3, false);
        due.is("trouble() behind a feast that is none", x.trouble(), 0);
    }
}
