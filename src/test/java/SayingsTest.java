/** Promises 15 to 18: what a notice that waits says. */
public final class SayingsTest {
    private static final Due due = new Due();

    public static void main(String[] args) {
        says();
        corrects();
        renames();
        strikes();
        words();
        due.end();
    }

    /** Notice 0 is printed; notices 1 to 3 wait. */
    private static GazetteHouse house() {
        GazetteHouse x = new GazetteHouse();
        Due.form(x, "a: word");
        Due.notice(x, 0, "a=x", 10, 0);
        x.issue(0, 1, 1, 10);
        for (int i = 1; i <= 3; i++) {
            Due.notice(x, 0, "a=x", 10, 500);
        }
        return x;
    }

    private static void says() {
        due.part("promise 15");
        GazetteHouse x = house();
        due.refused(x, "says(4, 0, 0, 0)", x.says(4, 0, 0, 0), 1);
        due.refused(x, "says(-1, -1, 0, 0)", x.says(-1, -1, 0, 0), 1);
        due.refused(x, "says(0, -1, 0, 0) of a printed one", x.says(0, -1, 0, 0), 6);
        due.refused(x, "says(1, -1, 0, 0)", x.says(1, -1, 0, 0), 2);
        due.refused(x, "says(1, 40, 0, 0)", x.says(1, 40, 0, 0), 2);
        due.refused(x, "says(1, 0, MIN, 0)", x.says(1, 0, Integer.MIN_VALUE, 0), 2);
        due.refused(x, "says(1, 0, 0, -1)", x.says(1, 0, 0, -1), 2);
        due.refused(x, "says(1, 0, 0, 10000)", x.says(1, 0, 0, 10000), 2);
        due.is("about(1, 4)", x.about(1, 4), 0);
        due.is("says(1, 0, MIN + 1, 0)", x.says(1, 0, Integer.MIN_VALUE + 1, 0), 1);
        due.is("trouble()", x.trouble(), 0);
        due.is("says(1, 39, MAX, 9999)", x.says(1, 39, Integer.MAX_VALUE, 9999), 2);
        due.is("says again", x.says(1, 0, 7, 0), 3);
        due.is("says again", x.says(1, 0, 7, 0), 4);
        due.refused(x, "says, the fifth", x.says(1, 0, 7, 0), 3);
        due.refused(x, "says, the fifth with a bad number", x.says(1, 40, 7, 0), 2);
        due.is("says of another", x.says(2, 0, 7, 0), 1);
        due.is("about(1, 4)", x.about(1, 4), 4);
    }

    private static void corrects() {
        due.part("promise 16");
        GazetteHouse x = house();
        due.refused(x, "corrects(4, 0)", x.corrects(4, 0), 1);
        due.refused(x, "corrects(3, 4)", x.corrects(3, 4), 1);
        due.refused(x, "corrects(3, -1)", x.corrects(3, -1), 1);
        due.refused(x, "corrects(0, 9), none such ahead of printed", x.corrects(0, 9), 1);
        due.refused(x, "corrects(0, 0)", x.corrects(0, 0), 6);
        due.refused(x, "corrects(0, 1)", x.corrects(0, 1), 6);
        due.refused(x, "corrects(1, 1)", x.corrects(1, 1), 2);
        due.refused(x, "corrects(1, 2)", x.corrects(1, 2), 2);
        due.is("about(1, 5)", x.about(1, 5), -1);
        due.is("corrects(2, 0)", x.corrects(2, 0), true);
        due.is("trouble()", x.trouble(), 0);
        due.is("about(2, 5)", x.about(2, 5), 0);
        due.is("corrects(2, 1), which waits", x.corrects(2, 1), true);
        due.is("about(2, 5)", x.about(2, 5), 1);
    }

    private static void renames() {
        due.part("promise 17");
        GazetteHouse x = house();
        due.refused(x, "renames(4, 1, 2)", x.renames(4, 1, 2), 1);
        due.refused(x, "renames(0, 0, 0)", x.renames(0, 0, 0), 6);
        due.refused(x, "renames(1, 5, 5)", x.renames(1, 5, 5), 2);
        due.refused(x, "renames(1, 0, 5)", x.renames(1, 0, 5), 2);
        due.refused(x, "renames(1, 5, 0)", x.renames(1, 5, 0), 2);
        due.is("about(1, 6)", x.about(1, 6), 0);
        due.is("renames(1, x, y)", x.renames(1, Due.word("x"), Due.word("y")), true);
        due.is("trouble()", x.trouble(), 0);
        due.is("renames(1, x, z), in place of it", x.renames(1, Due.word("x"), Due.word("z")), true);
        due.is("about(1, 6)", x.about(1, 6), 1);
        x.issue(1, 1000, 8, 10);
        due.is("find(y, 1)", x.find(Due.word("y"), 1), 0);
        due.is("find(z, 1)", x.find(Due.word("z"), 1), 4);
    }

    private static void strikes() {
        due.part("promise 18");
        GazetteHouse x = house();
        due.refused(x, "strikes(4, 0)", x.strikes(4, 0), 1);
        due.refused(x, "strikes(0, 0)", x.strikes(0, 0), 6);
        due.refused(x, "strikes(1, 0)", x.strikes(1, 0), 2);
        due.is("about(1, 7)", x.about(1, 7), 0);
        due.is("strikes(1, x)", x.strikes(1, Due.word("x")), true);
        due.is("trouble()", x.trouble(), 0);
        due.is("strikes(1, y), in place of it", x.strikes(1, Due.word("y")), true);
        due.is("about(1, 7)", x.about(1, 7), 1);
        x.issue(1, 1000, 8, 10);
        due.is("struck(x, 1)", x.struck(Due.word("x"), 1), 0);
        due.is("struck(y, 1)", x.struck(Due.word("y"), 1), 1);
    }

    private static void words() {
        due.part("words as numbers");
        GazetteHouse x = house();
        long eight = Due.word("zzzzzzzz");
        long[] none = {-1, Long.MIN_VALUE, Long.MAX_VALUE, 27, 31, 32, 1 << 10, 1 << 10 | 1, 27 << 5 | 1,
            eight + 1, eight * 32 + 1, 1L << 40 | Due.word("aaaaaaaa"), eight - 26, eight | 31L << 35};
        for (long word : none) {
            due.refused(x, "strikes(1, " + word + ")", x.strikes(1, word), 2);
            due.refused(x, "renames(1, " + word + ", 1)", x.renames(1, word, 1), 2);
            due.refused(x, "renames(1, 1, " + word + ")", x.renames(1, 1, word), 2);
            due.is("find(" + word + ", 0)", x.find(word, 0), -1);
            due.is("struck(" + word + ", 0)", x.struck(word, 0), -1);
        }
        String[] some = {"a", "z", "az", "za", "aaaaaaaa", "zzzzzzzz", "abcdefg"};
        for (String word : some) {
            due.is("strikes(1, " + word + ")", x.strikes(1, Due.word(word)), true);
            due.is("renames(1, " + word + ", b)", x.renames(1, Due.word(word), 2), true);
            due.is("find(" + word + ", 0)", x.find(Due.word(word), 0), 0);
            due.is("struck(" + word + ", 0)", x.struck(Due.word(word), 0), 0);
        }
    }
}
