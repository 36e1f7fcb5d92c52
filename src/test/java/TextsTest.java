/** Promises 5 to 14: the tape, forms, notices and their faults. */
public final class TextsTest {
    private static final Due due = new Due();
    private static final String SIX =
            "a: num 3..9; b: day?; c: span 5 days b; d: word; e: one yes/no; f: span 2 work c";

    public static void main(String[] args) {
        tape();
        forms();
        formFaults();
        formFaultsOfOnePlace();
        twelveForms();
        notices();
        noticeFaults();
        noticeRefusals();
        sixtyNotices();
        faultWhereLacks();
        fieldsOfForms();
        values();
        spans();
        spansKeptByPrint();
        abouts();
        due.end();
    }

    private static void tape() {
        due.part("promise 5");
        GazetteHouse x = new GazetteHouse();
        for (int i = 1; i <= 20; i++) {
            due.is("feed", x.feed(0, 0, 0, 0, 0), i * 20);
        }
        due.is("feed, the 21st", x.feed(0, 0, 0, 0, 0), -1);
        due.is("count(6)", x.count(6), 400);
        due.is("form(400)", x.form(400), -1);
        due.is("count(6)", x.count(6), 0);
        due.is("feed", x.feed(0x613a6461, 0x793b623a, 0x776f7264, 0x3b633a64, 0x61792020), 20);
        due.is("form(18)", x.form(18), 0);
        due.is("fields(0): the bytes are in order", x.fields(0), 3);
        due.is("field(0, 1, 0)", x.field(0, 1, 0), 2);
        due.part("a feed is no call that may be refused");
        x.working(-1);
        x.feed(0, 0, 0, 0, 0);
        due.is("trouble()", x.trouble(), 2);
    }

    private static void forms() {
        due.part("promise 6");
        GazetteHouse x = new GazetteHouse();
        due.is("form of all kinds", Due.form(x, SIX), 0);
        due.is("count(6)", x.count(6), 0);
        due.is("fault()", x.fault(), 0);
        due.is("fields(0)", x.fields(0), 6);
        due.is("form without blanks", Due.form(x, "a:num3..9;b:one x/y/z/w?;c:day;d:span5days c"), 1);
        due.is("fields(1)", x.fields(1), 4);
        due.is("form with tens and blanks", Due.form(x, "\n a\n:\n day \n ? \n"), 2);
        due.is("field(2, 0, 1)", x.field(2, 0, 1), 1);
        due.is("words of the language as names", Due.form(x, "num:num 1..1;day:one day/one;days:day;work:span 1 work days"), 3);
        due.is("longest ones", Due.form(x, "abcdefgh: num 0000..9999"), 4);
        due.is("field(4, 0, 3)", x.field(4, 0, 3), 9999);
        due.is("eight fields", Due.form(x, "a:day;b:day;c:day;d:day;e:day;f:day;g:day;h:day"), 5);
        Due.feed(x, "a:day;;;;");
        due.refused(x, "form(-1)", x.form(-1), 2);
        due.refused(x, "form(21)", x.form(21), 2);
        due.is("count(6): the tape stays", x.count(6), 20);
        due.is("form(5): only the first bytes count", x.form(5), 6);
        due.is("trouble()", x.trouble(), 0);
        due.is("count(1)", x.count(1), 7);
    }

    private static void formFaults() {
        due.part("promises 6, 8, 9");
        due.badForm(1, 0, "");
        due.badForm(1, 3, "   ");
        due.badForm(1, 1, "a");
        due.badForm(1, 4, "a:  ");
        due.badForm(1, 0, "A: day");
        due.badForm(1, 6, "a: day\t");
        due.badForm(1, 6, "a: day" + (char) 0);
        due.badForm(1, 6, "a: day" + (char) 225);
        due.badForm(1, 7, "a: day;");
        due.badForm(1, 8, "a: day; ;");
        due.badForm(1, 0, "abcdefghi: day");
        due.badForm(1, 3, "a: days");
        due.badForm(1, 8, "a: num 3.9");
        due.badForm(1, 8, "a: num 3. .9");
        due.badForm(1, 10, "a: num 3...9");
        due.badForm(1, 10, "a: num 3..");
        due.badForm(1, 7, "a: num x..9");
        due.badForm(1, 10, "a: num 3..00004");
        due.badForm(1, 6, "a: one");
        due.badForm(1, 7, "a: one 3");
        due.badForm(1, 9, "a: one x/");
        due.badForm(1, 9, "a: one x y");
        due.badForm(1, 7, "a: day??");
        due.badForm(1, 7, "a: day?b");
        due.badForm(1, 1, "a= day");
        due.badForm(1, 0, "3: day");
        due.badForm(1, 15, "a: day;b: span x days a");
        due.badForm(1, 17, "a: day;b: span 3 day a");
        due.badForm(1, 22, "a: day;b: span 3 days 4");
        due.badForm(1, 23, "a: day;b: span 3 days a?");
        due.badForm(2, 15, "a: span 3 days a");
        due.badForm(2, 23, "a: word;b: span 3 work a");
        due.badForm(2, 27, "a: num 1..2;b: span 3 work a");
        due.badForm(2, 15, "b: span 3 work a;a: day");
        due.badForm(3, 15, "a: day;b: word;a: day");
        due.badForm(3, 11, "a: one x/y/x");
        due.badForm(4, 10, "a: num 9..8");
        due.badForm(4, 11, "a: num 10..009 @");
        due.badForm(5, 15, "a: one x/y/z/w/v");
        due.badForm(5, 48, "a:day;b:day;c:day;d:day;e:day;f:day;g:day;h:day;i:day");
    }

    private static void formFaultsOfOnePlace() {
        due.part("promises 6, 8, 9, faults of one place");
        due.badForm(3, 15, "a: one x/y/z/w/x");
        due.badForm(1, 15, "a: one x/y/z/w/3");
        due.badForm(3, 48, "a:day;b:day;c:day;d:day;e:day;f:day;g:day;h:day;h:day");
        due.badForm(1, 48, "a:day;b:day;c:day;d:day;e:day;f:day;g:day;h:day;");
        due.badForm(1, 48, "a:day;b:day;c:day;d:day;e:day;f:day;g:day;h:day;abcdefghi");
        due.badForm(4, 10, "a: num 9..8@");
        due.badForm(3, 7, "a: day;a@");
    }

    private static void twelveForms() {
        due.part("promise 6, room");
        GazetteHouse x = new GazetteHouse();
        for (int i = 0; i < 12; i++) {
            due.is("form", Due.form(x, "a: num " + i + "..99"), i);
        }
        due.refused(x, "form with a fault, the 13th", Due.form(x, "a: dad"), 4);
        due.is("fault()", x.fault(), 1);
        due.refused(x, "form, the 13th", Due.form(x, "b: day; c: day"), 3);
        due.is("fault()", x.fault(), 0);
        due.is("where()", x.where(), -1);
        due.is("count(6): the tape is empty", x.count(6), 0);
        due.is("count(1)", x.count(1), 12);
        due.is("fields(12)", x.fields(12), -1);
        due.is("field(11, 0, 2)", x.field(11, 0, 2), 11);
    }

    private static void notices() {
        due.part("promise 7");
        GazetteHouse x = new GazetteHouse();
        Due.form(x, SIX);
        due.is("notice", Due.notice(x, 0, "e = no ; a = 0009\n;d=abcdefgh", 60, 0), 0);
        due.is("trouble()", x.trouble(), 0);
        due.is("count(6)", x.count(6), 0);
        due.is("notice in another order", Due.notice(x, 0, "d=x;e=yes;a=3;b=9999", 1, 9999), 1);
        due.is("count(2)", x.count(2), 2);
        due.is("value(0, 0)", x.value(0, 0), 9);
        due.is("value(1, 1)", x.value(1, 1), 9999);
        Due.feed(x, "a=3;d=q;e=no;b=1");
        due.is("notice: only the first bytes count", x.notice(0, 12, 5, 5), 2);
        due.is("value(2, 1)", x.value(2, 1), -1);
    }

    private static void noticeFaults() {
        due.part("promises 7, 8, 9");
        String two = "a: num 3..9; b: word?";
        due.badNotice(two, 1, 0, "");
        due.badNotice(two, 1, 1, "a");
        due.badNotice(two, 1, 2, "a=");
        due.badNotice(two, 1, 1, "a:5");
        due.badNotice(two, 1, 0, "5=a");
        due.badNotice(two, 1, 2, "a=?");
        due.badNotice(two, 1, 2, "a=12345");
        due.badNotice(two, 1, 2, "b=abcdefghi");
        due.badNotice(two, 1, 4, "a=5;");
        due.badNotice(two, 1, 4, "a=5 b=x");
        due.badNotice(two, 4, 2, "b=5");
        due.badNotice(two, 6, 4, "b=x ");
        due.badNotice(two, 4, 2, "a=2");
        due.badNotice(two, 4, 2, "a=10");
        due.badNotice(two, 4, 2, "a=a@");
        due.badNotice(two, 2, 0, "c@");
        due.badNotice(two, 3, 4, "b=x;b=y");
        due.badNotice(two, 2, 8, "a=5;b=x;c=3");
        due.badNotice(two, 3, 8, "a=5;b=x;a=3");
        due.badNotice(SIX, 2, 0, "c=5");
        due.badNotice(SIX, 2, 0, "f=5");
        due.badNotice(SIX, 4, 2, "b=x");
        due.badNotice(SIX, 1, 2, "b=10000");
        due.badNotice(SIX, 4, 2, "e=5");
        due.badNotice(SIX, 4, 2, "e=may");
        due.badNotice(SIX, 6, 7, "a=5;d=x");
        due.badNotice("a: day; b: day; c: day; d: day; e: day; f: day; g: day; h: day",
                3, 32, "a=1;b=1;c=1;d=1;e=1;f=1;g=1;h=1;h=1");
    }

    private static void noticeRefusals() {
        due.part("promise 7, refusals");
        GazetteHouse x = new GazetteHouse();
        Due.feed(x, "a=5");
        due.refused(x, "notice by no form", x.notice(0, 3, 1, 0), 1);
        due.refused(x, "notice by no form, with bad numbers", x.notice(-1, 99, 0, -1), 1);
        due.is("count(6): the tape stays", x.count(6), 20);
        x.form(0);
        Due.form(x, "a: day");
        Due.feed(x, "a=5");
        due.refused(x, "n -1", x.notice(0, -1, 1, 0), 2);
        due.refused(x, "n 21", x.notice(0, 21, 1, 0), 2);
        due.refused(x, "lines 0", x.notice(0, 3, 0, 0), 2);
        due.refused(x, "lines 61", x.notice(0, 3, 61, 0), 2);
        due.refused(x, "due -1", x.notice(0, 3, 1, -1), 2);
        due.refused(x, "due 10000", x.notice(0, 3, 1, 10000), 2);
        due.refused(x, "form 1", x.notice(1, 3, 1, 0), 1);
        due.is("count(6): the tape stays", x.count(6), 20);
        due.is("notice", x.notice(0, 3, 60, 9999), 0);
    }

    private static void sixtyNotices() {
        due.part("promise 7, room");
        GazetteHouse x = new GazetteHouse();
        Due.form(x, "a: day");
        for (int i = 0; i < 60; i++) {
            due.is("notice", Due.notice(x, 0, "a=" + i, 1, 0), i);
        }
        due.refused(x, "notice with a fault, the 61st", Due.notice(x, 0, "a=x", 1, 0), 4);
        due.refused(x, "notice, the 61st", Due.notice(x, 0, "a=7", 1, 0), 3);
        due.is("fault()", x.fault(), 0);
        due.is("count(6)", x.count(6), 0);
        due.is("count(2)", x.count(2), 60);
        due.is("value(59, 0)", x.value(59, 0), 59);
        due.is("value(60, 0)", x.value(60, 0), -1);
        due.is("undo()", x.undo(), 1);
        due.is("notice", Due.notice(x, 0, "a=8", 1, 0), 59);
    }

    private static void faultWhereLacks() {
        due.part("promises 8, 9, 10");
        GazetteHouse x = new GazetteHouse();
        Due.form(x, "p: day; a: num 3..9?; b: span 1 days p; c: word; d: day");
        Due.notice(x, 0, "p=5;a=3", 1, 0);
        due.is("fault()", x.fault(), 6);
        due.is("where()", x.where(), 7);
        due.is("lacks(): c, not the span ahead of it", x.lacks(), 3);
        due.is("value(0, 0)", x.value(0, 0), -1);
        due.is("where() behind a query", x.where(), 7);
        due.is("trouble() behind a query", x.trouble(), 4);
        x.working(3);
        due.is("where() behind a call that was accepted", x.where(), -1);
        due.is("fault() stays", x.fault(), 6);
        due.is("lacks() stays", x.lacks(), 3);
        x.notice(7, 0, 1, 0);
        due.is("fault() behind 1", x.fault(), 6);
        x.form(1);
        due.is("fault() behind 2", x.fault(), 6);
        due.is("lacks() behind 2", x.lacks(), 3);
        Due.notice(x, 0, "p=5;a=x", 1, 0);
        due.is("fault()", x.fault(), 4);
        due.is("where()", x.where(), 6);
        due.is("lacks()", x.lacks(), -1);
        Due.notice(x, 0, "p=5;c=x;d=5", 1, 0);
        due.is("fault() without one", x.fault(), 0);
        due.is("where() without one", x.where(), -1);
        Due.form(x, "a");
        due.is("fault()", x.fault(), 1);
        due.is("where()", x.where(), 1);
    }

    private static void field(GazetteHouse x, int i, int kind, int mayLack, int first, int second) {
        due.is("field(0, " + i + ", 0)", x.field(0, i, 0), kind);
        due.is("field(0, " + i + ", 1)", x.field(0, i, 1), mayLack);
        due.is("field(0, " + i + ", 2)", x.field(0, i, 2), first);
        due.is("field(0, " + i + ", 3)", x.field(0, i, 3), second);
    }

    private static void fieldsOfForms() {
        due.part("promises 11, 12");
        GazetteHouse x = new GazetteHouse();
        Due.form(x, "a:num 3..9?;x:day;b:day?;c:span 5 days b;d:word?;e:one r/s/t?;f:span 0 work c;g:num 0..0");
        field(x, 0, 0, 1, 3, 9);
        field(x, 1, 1, 0, 0, 0);
        field(x, 2, 1, 1, 0, 0);
        field(x, 3, 4, 0, 5, 2);
        field(x, 4, 2, 1, 0, 0);
        field(x, 5, 3, 1, 3, 0);
        field(x, 6, 5, 0, 0, 3);
        field(x, 7, 0, 0, 0, 0);
        due.is("fields(0)", x.fields(0), 8);
        due.is("fields(-1)", x.fields(-1), -1);
        due.is("fields(1)", x.fields(1), -1);
        due.is("field(0, 8, 0)", x.field(0, 8, 0), -1);
        due.is("field(0, -1, 0)", x.field(0, -1, 0), -1);
        due.is("field(0, 0, 4)", x.field(0, 0, 4), -1);
        due.is("field(0, 0, -1)", x.field(0, 0, -1), -1);
        due.is("field(1, 0, 0)", x.field(1, 0, 0), -1);
        due.is("field(-1, 0, 0)", x.field(-1, 0, 0), -1);
        x.undo();
        Due.form(x, "z:day");
        field(x, 0, 1, 0, 0, 0);
        due.is("fields(0)", x.fields(0), 1);
    }

    private static void values() {
        due.part("promise 13");
        GazetteHouse x = new GazetteHouse();
        Due.form(x, "a:num 0..9999?;b:day?;c:span 5 days b;d:word?;e:one r/s/t/u?");
        Due.notice(x, 0, "d=a", 1, 0);
        due.is("value(0, 0) lacks", x.value(0, 0), -1);
        due.is("value(0, 1) lacks", x.value(0, 1), -1);
        due.is("value(0, 2) lacks as b does", x.value(0, 2), -1);
        due.is("value(0, 3)", x.value(0, 3), 1);
        due.is("value(0, 4) lacks", x.value(0, 4), -1);
        due.is("value(0, 5)", x.value(0, 5), -1);
        due.is("value(0, -1)", x.value(0, -1), -1);
        due.is("value(1, 0)", x.value(1, 0), -1);
        due.is("value(-1, 0)", x.value(-1, 0), -1);
        Due.notice(x, 0, "d=zzzzzzzz;e=u;a=9999;b=0", 1, 0);
        due.is("value(1, 0)", x.value(1, 0), 9999);
        due.is("value(1, 1)", x.value(1, 1), 0);
        due.is("value(1, 2)", x.value(1, 2), 7);
        due.is("value(1, 3)", x.value(1, 3), Due.word("zzzzzzzz"));
        due.is("value(1, 4)", x.value(1, 4), 3);
        Due.notice(x, 0, "d=ann;e=r", 1, 0);
        due.is("value(2, 3)", x.value(2, 3), 1 << 10 | 14 << 5 | 14);
        due.is("value(2, 4)", x.value(2, 4), 0);
        Due.form(x, "a:day;b:day?;c:day?;d:day?;e:day?;f:day?;g:day?;h:day?");
        Due.notice(x, 1, "a=1;h=8", 1, 0);
        due.is("value(3, 7)", x.value(3, 7), 8);
        due.is("value(3, 8)", x.value(3, 8), -1);
    }

    private static void spans() {
        due.part("promise 13, spans");
        GazetteHouse x = new GazetteHouse();
        Due.form(x, "a:day;b:span 0 days a;c:span 0 work a;d:span 1 work c;e:span 9999 days d;f:span 0 work e;g:span 1 days f");
        Due.notice(x, 0, "a=5", 1, 0);
        int[] want = {5, 7, 5, 7, 10000, 10000, 10000};
        for (int i = 0; i < want.length; i++) {
            due.is("value(0, " + i + ")", x.value(0, i), want[i]);
        }
        x.feast(7, true);
        due.is("value(0, 1) past a feast", x.value(0, 1), 8);
        due.is("value(0, 2) past a feast", x.value(0, 2), 5);
        due.is("value(0, 3) past a feast", x.value(0, 3), 8);
        x.undo();
        due.is("value(0, 3), the feast taken back", x.value(0, 3), 7);
    }

    private static void spansKeptByPrint() {
        due.part("promise 13, spans as printed");
        GazetteHouse x = new GazetteHouse();
        Due.form(x, "a:day;b:span 0 days a;c:span 1 work b");
        Due.notice(x, 0, "a=5", 1, 0);
        Due.notice(x, 0, "a=5", 1, 100);
        x.feast(7, true);
        due.is("issue", x.issue(50, 60, 1, 10), 0);
        x.feast(8, true);
        due.is("value(0, 1) as printed", x.value(0, 1), 8);
        due.is("value(0, 2) as printed", x.value(0, 2), 9);
        due.is("about(1, 3): it went in, too", x.about(1, 3), 0);
        Due.notice(x, 0, "a=5", 1, 100);
        due.is("value(2, 1) of one that waits", x.value(2, 1), 9);
        due.is("value(2, 2) of one that waits", x.value(2, 2), 10);
    }

    private static void abouts() {
        due.part("promise 14");
        GazetteHouse x = new GazetteHouse();
        Due.form(x, "a: day");
        Due.form(x, "a: word");
        Due.notice(x, 0, "a=1", 3, 4);
        Due.notice(x, 1, "a=x", 60, 9999);
        int[] first = {0, 3, 4, -1, 0, -1, 0, 0, -1};
        for (int what = 0; what < first.length; what++) {
            due.is("about(0, " + what + ")", x.about(0, what), first[what]);
        }
        x.says(1, 0, 5, 5);
        x.says(1, 0, 5, 5);
        x.corrects(1, 0);
        x.renames(1, 1, 2);
        x.strikes(1, 1);
        int[] second = {1, 60, 9999, -1, 2, 0, 1, 1, -1};
        for (int what = 0; what < second.length; what++) {
            due.is("about(1, " + what + ")", x.about(1, what), second[what]);
        }
        due.is("about(1, -1)", x.about(1, -1), -1);
        due.is("about(2, 0)", x.about(2, 0), -1);
        due.is("about(-1, 0)", x.about(-1, 0), -1);
        x.issue(0, 10000, 8, 60);
        x.issue(1, 10000, 8, 60);
        due.is("about(1, 3)", x.about(1, 3), 0);
    }
}
