/** Promises 22 to 28: laws, corrections and names, as known on a day. */
public final class HoldsTest {
    private static final int NO_LAW = GazetteHouse.NO_LAW;
    private static final Due due = new Due();

    public static void main(String[] args) {
        laws();
        latestLaw();
        badNumbers();
        voids();
        correctionAhead();
        changes();
        finds();
        findsRound();
        founds();
        strucks();
        due.end();
    }

    private static GazetteHouse house() {
        GazetteHouse x = new GazetteHouse();
        Due.form(x, "a: word; b: word?; c: one p/q?; d: num 0..99?");
        return x;
    }

    private static int add(GazetteHouse x, String text) {
        return Due.notice(x, 0, text, 1, 9999);
    }

    private static void laws() {
        due.part("promises 22, 23");
        GazetteHouse x = house();
        add(x, "a=x");
        x.says(0, 0, 5, 0);
        x.says(0, 39, -7, 9999);
        due.is("law(0, 0, 9999) of one that waits", x.law(0, 0, 9999), NO_LAW);
        x.issue(3, 4, 1, 10);
        due.is("law(0, 0, 2)", x.law(0, 0, 2), NO_LAW);
        due.is("law(0, 0, 3)", x.law(0, 0, 3), 5);
        due.is("law(0, 9999, 9999)", x.law(0, 9999, 9999), 5);
        due.is("law(1, 0, 3)", x.law(1, 0, 3), NO_LAW);
        due.is("law(39, 9998, 3)", x.law(39, 9998, 3), NO_LAW);
        due.is("law(39, 9999, 3)", x.law(39, 9999, 3), -7);
        due.is("source(0, 0, 3)", x.source(0, 0, 3), 0);
        due.is("source(0, 0, 2)", x.source(0, 0, 2), -1);
        due.is("source(39, 9998, 3)", x.source(39, 9998, 3), -1);
    }

    private static void latestLaw() {
        due.part("promises 22, 23, which of more");
        GazetteHouse x = house();
        add(x, "a=x");
        add(x, "a=x");
        add(x, "a=x");
        x.says(0, 7, 100, 50);
        x.says(1, 7, 200, 40);
        x.says(1, 7, 201, 40);
        x.says(1, 7, 202, 30);
        x.says(2, 8, 300, 50);
        x.issue(0, 1, 1, 10);
        add(x, "a=x");
        x.says(3, 7, 400, 40);
        x.issue(1, 2, 1, 10);
        due.is("law(7, 29, 0)", x.law(7, 29, 0), NO_LAW);
        due.is("law(7, 39, 0)", x.law(7, 39, 0), 202);
        due.is("law(7, 40, 0): the latest of a notice", x.law(7, 40, 0), 201);
        due.is("law(7, 50, 0): the latest day from", x.law(7, 50, 0), 100);
        due.is("source(7, 50, 0)", x.source(7, 50, 0), 0);
        due.is("law(7, 40, 1): the greatest notice", x.law(7, 40, 1), 400);
        due.is("source(7, 40, 1)", x.source(7, 40, 1), 3);
        due.is("law(7, 50, 1)", x.law(7, 50, 1), 100);
        due.is("law(8, 50, 1)", x.law(8, 50, 1), 300);
        due.is("source(8, 50, 1)", x.source(8, 50, 1), 2);
    }

    private static void badNumbers() {
        due.part("promises 22 to 28, no such key, day, word");
        GazetteHouse x = house();
        add(x, "a=x");
        x.says(0, 0, 5, 0);
        x.strikes(0, 1);
        x.issue(0, 1, 1, 10);
        int[] days = {-1, 10000, Integer.MIN_VALUE, Integer.MAX_VALUE};
        for (int day : days) {
            due.is("law(0, " + day + ", 0)", x.law(0, day, 0), NO_LAW);
            due.is("law(0, 0, " + day + ")", x.law(0, 0, day), NO_LAW);
            due.is("source(0, " + day + ", 0)", x.source(0, day, 0), -1);
            due.is("source(0, 0, " + day + ")", x.source(0, 0, day), -1);
            due.is("isVoid(0, " + day + ")", x.isVoid(0, day), -1);
            due.is("changes(0, " + day + ")", x.changes(0, day), -1);
            due.is("find(1, " + day + ")", x.find(1, day), -1);
            due.is("struck(1, " + day + ")", x.struck(1, day), -1);
        }
        int[] keys = {-1, 40, Integer.MIN_VALUE, Integer.MAX_VALUE};
        for (int key : keys) {
            due.is("law(" + key + ", 0, 0)", x.law(key, 0, 0), NO_LAW);
            due.is("source(" + key + ", 0, 0)", x.source(key, 0, 0), -1);
            due.is("changes(" + key + ", 0)", x.changes(key, 0), -1);
        }
        due.is("isVoid(-1, 0)", x.isVoid(-1, 0), -1);
        due.is("isVoid(1, 0)", x.isVoid(1, 0), -1);
        due.is("trouble(): none of these may be refused", x.trouble(), 0);
    }

    private static void voids() {
        due.part("promise 24");
        GazetteHouse x = house();
        for (int day = 0; day < 4; day++) {
            add(x, "a=x");
            x.says(day, 1, day + 10, 0);
            if (day > 0) {
                x.corrects(day, day - 1);
            }
            x.issue(day, day + 1, 1, 10);
        }
        int[][] want = {{0, -1, -1, -1}, {1, 0, -1, -1}, {0, 1, 0, -1}, {1, 0, 1, 0}};
        for (int known = 0; known < 4; known++) {
            for (int i = 0; i < 4; i++) {
                due.is("isVoid(" + i + ", " + known + ")", x.isVoid(i, known), want[known][i]);
            }
        }
        due.is("source(1, 0, 3): 1 and 3 hold", x.source(1, 0, 3), 3);
        due.is("source(1, 0, 2): 0 and 2 hold", x.source(1, 0, 2), 2);
        due.is("law(1, 0, 1): 1 holds", x.law(1, 0, 1), 11);
        due.is("law(1, 0, 0): 0 holds", x.law(1, 0, 0), 10);
        add(x, "a=x");
        x.corrects(4, 3);
        due.is("isVoid(4, 9999) while it waits", x.isVoid(4, 9999), -1);
        due.is("isVoid(3, 9999): what waits corrects nothing", x.isVoid(3, 9999), 0);
        add(x, "a=x");
        x.corrects(5, 3);
        x.issue(4, 5, 1, 10);
        due.is("isVoid(3, 4): two correct it", x.isVoid(3, 4), 1);
        due.is("source(1, 0, 4)", x.source(1, 0, 4), 2);
        add(x, "a=x");
        x.corrects(6, 5);
        x.issue(5, 6, 1, 10);
        due.is("isVoid(3, 5): one of them still does", x.isVoid(3, 5), 1);
        add(x, "a=x");
        x.corrects(7, 4);
        x.issue(6, 7, 1, 10);
        due.is("isVoid(3, 6): none of them does", x.isVoid(3, 6), 0);
    }

    private static void correctionAhead() {
        due.part("promise 24, a correction printed ahead of what it corrects");
        GazetteHouse x = house();
        Due.notice(x, 0, "a=x", 10, 9000);
        Due.notice(x, 0, "a=x", 10, 0);
        x.says(0, 1, 5, 0);
        x.corrects(1, 0);
        x.issue(1, 2, 1, 10);
        due.is("isVoid(0, 1)", x.isVoid(0, 1), -1);
        x.issue(2, 3, 1, 10);
        due.is("isVoid(0, 2)", x.isVoid(0, 2), 1);
        due.is("law(1, 0, 2)", x.law(1, 0, 2), NO_LAW);
    }

    private static void changes() {
        due.part("promise 25");
        GazetteHouse x = house();
        add(x, "a=x");
        x.says(0, 1, 10, 0);
        x.says(0, 1, 10, 50);
        x.says(0, 1, 20, 100);
        x.says(0, 1, 10, 9999);
        due.is("changes(1, 9999) while it waits", x.changes(1, 9999), 0);
        x.issue(0, 1, 1, 10);
        due.is("changes(1, 0): on day 0, 100 and 9999", x.changes(1, 0), 3);
        due.is("changes(2, 0)", x.changes(2, 0), 0);
        add(x, "a=x");
        x.says(1, 1, 20, 0);
        x.says(1, 1, 30, 60);
        x.says(1, 1, 31, 60);
        x.issue(1, 2, 1, 10);
        due.is("changes(1, 1): on day 0, 50, 60, 100, 9999", x.changes(1, 1), 5);
        due.is("changes(1, 0), as known ahead", x.changes(1, 0), 3);
        add(x, "a=x");
        x.corrects(2, 0);
        x.issue(2, 3, 1, 10);
        due.is("changes(1, 2): on day 0, 60", x.changes(1, 2), 2);
        add(x, "a=x");
        x.says(3, 2, 0, 1);
        x.issue(3, 4, 1, 10);
        due.is("changes(2, 3): on day 1", x.changes(2, 3), 1);
    }

    private static void finds() {
        due.part("promise 26");
        GazetteHouse x = house();
        long one = Due.word("p");
        add(x, "a=x;c=p;d=1");
        add(x, "a=y;b=x");
        add(x, "a=z");
        x.renames(2, Due.word("x"), Due.word("y"));
        add(x, "a=w");
        x.renames(3, Due.word("y"), Due.word("z"));
        due.is("find(x, 9999) while all wait", x.find(Due.word("x"), 9999), 0);
        x.issue(1, 2, 1, 10);
        add(x, "a=v");
        x.corrects(4, 2);
        x.issue(2, 3, 1, 10);
        due.is("find(x, 0)", x.find(Due.word("x"), 0), 0);
        due.is("find(x, 1)", x.find(Due.word("x"), 1), 2);
        due.is("find(y, 1)", x.find(Due.word("y"), 1), 2);
        due.is("find(z, 1) in two steps", x.find(Due.word("z"), 1), 3);
        due.is("find(w, 1)", x.find(Due.word("w"), 1), 1);
        due.is("find(z, 2): void or not", x.find(Due.word("z"), 2), 3);
        due.is("found(2)", x.found(2), 2);
        due.is("find(p, 2): a word of one is no name", x.find(one, 2), 0);
        due.is("find(a, 2): a num is no name", x.find(1, 2), 0);
        add(x, "a=q");
        x.renames(5, Due.word("w"), Due.word("z"));
        due.is("find(z, 9999): what waits renames nothing", x.find(Due.word("z"), 9999), 3);
    }

    private static void findsRound() {
        due.part("promise 26, in a ring and in a long line");
        GazetteHouse x = house();
        add(x, "a=x");
        x.renames(0, Due.word("x"), Due.word("y"));
        add(x, "a=y");
        x.renames(1, Due.word("y"), Due.word("x"));
        x.issue(1, 2, 1, 10);
        due.is("find(x, 1)", x.find(Due.word("x"), 1), 2);
        due.is("find(y, 1)", x.find(Due.word("y"), 1), 2);
        x = longLine();
        due.is("find, 60 steps back", x.find(step(60), 9999), 1);
        due.is("found(0)", x.found(0), 0);
    }

    /** One of the words aa, ab .. az, ba and so on. */
    private static long step(int i) {
        return (i / 26 + 1) * 32 + i % 26 + 1;
    }

    /** The earlier step is renamed by the lesser notice, so that each look over them adds one alone. */
    private static GazetteHouse longLine() {
        GazetteHouse x = house();
        for (int i = 1; i <= 60; i++) {
            int number = add(x, i == 1 ? "a=aa" : "a=a");
            x.renames(number, step(i - 1), step(i));
        }
        for (int day = 0; day < 20; day++) {
            x.issue(day, day + 1, 8, 60);
        }
        return x;
    }

    private static void founds() {
        due.part("promise 27");
        GazetteHouse x = house();
        Due.notice(x, 0, "a=x", 10, 9000);
        add(x, "a=y");
        Due.notice(x, 0, "a=y;b=x", 10, 0);
        due.is("found(0)", x.found(0), -1);
        x.issue(1, 2, 1, 10);
        x.issue(2, 3, 2, 10);
        due.is("find(x, 2)", x.find(Due.word("x"), 2), 2);
        due.is("found(0), by number", x.found(0), 0);
        due.is("found(1)", x.found(1), 2);
        due.is("found(2)", x.found(2), -1);
        due.is("found(-1)", x.found(-1), -1);
        due.is("find of no word", x.find(0, 2), -1);
        due.is("find of no day", x.find(1, -1), -1);
        due.is("found(1) of the latest that told a number", x.found(1), 2);
        due.is("find(q, 2)", x.find(Due.word("q"), 2), 0);
        due.is("found(0): none is a number, too", x.found(0), -1);
    }

    private static void strucks() {
        due.part("promise 28");
        GazetteHouse x = house();
        add(x, "a=x");
        x.strikes(0, Due.word("x"));
        due.is("struck(x, 9999) while it waits", x.struck(Due.word("x"), 9999), 0);
        x.issue(5, 6, 1, 10);
        add(x, "a=x");
        x.corrects(1, 0);
        x.renames(1, Due.word("x"), Due.word("y"));
        x.issue(6, 7, 1, 10);
        due.is("struck(x, 4)", x.struck(Due.word("x"), 4), 0);
        due.is("struck(x, 5)", x.struck(Due.word("x"), 5), 1);
        due.is("struck(x, 6): void or not", x.struck(Due.word("x"), 6), 1);
        due.is("struck(y, 6): its older name is, not it", x.struck(Due.word("y"), 6), 0);
    }
}
