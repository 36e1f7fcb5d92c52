/** The faults of Term II and promises 8 to 10, sentence by sentence. */
final class FaultsSentences {
    private static final String EIGHT = "a:day;b:day;c:day;d:day;e:day;f:day;g:day;h:day";
    private final Due due;

    FaultsSentences(Due due) {
        this.due = due;
    }

    void all() {
        firstAndLeast();
        shape();
        noName();
        twice();
        notItsKind();
        many();
        lacksAtTheEnd();
        fault();
        where();
        lacks();
    }

    // ---- Term II

    private void firstAndLeast() {
        due.term("promises 8 and 9", "FAULTS, the first from the left, of one place the least number:");
        due.badForm(3, "a:day;^a@");
        due.badForm(1, "a:day^@;a:day");
        due.badForm(4, "a:num 9..^8@");
        due.badForm(1, "a:num 9..^@8");
        due.badForm(2, "a:span 3 days ^b@;a:day");
        due.badForm(5, "a:one p/q/r/s/^t/p");
        due.badForm(3, "a:one p/^p/q/r/s/t");
        due.badForm(4, "a:num 2..^1;a:day;b:span 1 days x");
        due.badForm(1, EIGHT + ";^");
        due.badForm(1, EIGHT + ";^3");
        due.badForm(1, EIGHT + ";^abcdefghi");
        due.badForm(3, EIGHT + ";^a");
        due.badForm(3, "a:one p/q/r/s/^p");
        due.badForm(1, "a:one p/q/r/s/^3");
        due.badForm(1, "a:one p/q/r/s/^");
        due.badNotice("a:day;b:day", 2, "^c@");
        due.badNotice("a:day;b:day", 1, "a^@c=5");
        due.badNotice("a:day;b:day", 4, "a=^x@");
        due.badNotice("a:day;b:day", 3, "a=5;^a");
        due.badNotice("a:day;b:day", 1, "a=5;^");
        due.badNotice("a:day;b:day", 1, "^");
        due.badNotice("a:day;b:day", 1, "a=^");
        due.badNotice("a:day;b:day", 1, "a^");
        due.badNotice("a:day;b:day", 1, "a=^12345");
        due.badNotice("a:num 2..3;b:day", 4, "a=^1;a=2");
    }

    private void shape() {
        due.term("promises 8 and 9", "1 FORM: the first byte that begins no TOKEN, or TOKEN with which no text goes on (the end: its place).");
        due.badForm(1, "^@");
        due.badForm(1, " \n^.");
        due.badForm(1, "a:day ^\t");
        due.badForm(1, "a:day ^\u00e9");
        due.badForm(1, "a:num 1 ^. . 2");
        due.badForm(1, "a:day^=");
        due.badForm(1, "a:day ^day");
        due.badForm(1, "a:one p/q^:");
        due.badForm(1, "a:^bri");
        due.badForm(1, "a:day;b:span 1 days a ^/");
        due.badForm(1, "^");
        due.badForm(1, "a^");
        due.badForm(1, "a:  ^");
        due.badForm(1, "a:day; \n ^");
        due.badForm(1, "a:num^");
        due.badForm(1, "a:num 1..\n^");
        due.badForm(1, "a:day;b:span 1 days^");
        due.badNotice("a:day", 1, "^@");
        due.badNotice("a:day", 1, "a=^?");
        due.badNotice("a:day", 1, "a=^..");
        due.badNotice("a:day", 1, "a=1^=");
        due.badNotice("a:day", 1, "a=1 ^2");
        due.badNotice("a:day", 1, "a= ^");
        due.badNotice("a:day", 1, "a=1; ^");
        endOfTheBytesTold();
    }

    /** The end is behind the n-th byte, whatever the tape has there. */
    private void endOfTheBytesTold() {
        GazetteHouse x = new GazetteHouse();
        Due.feed(x, "abcdefghijkl:day");
        due.is("form(8): eight letters are a word", x.form(8), -1);
        due.is("where()", x.where(), 8);
        Due.feed(x, "a:num 12345..99999");
        due.is("form(10)", x.form(10), -1);
        due.is("where()", x.where(), 10);
        Due.feed(x, "a:num 1..2");
        due.is("form(8)", x.form(8), -1);
        due.is("where() of one dot", x.where(), 7);
        Due.feed(x, "a:num 0..12345");
        due.is("form(13): four digits are a number", x.form(13), 0);
        due.is("field(0, 0, 3)", x.field(0, 0, 3), 1_234);
    }

    private void noName() {
        due.term("promises 8 and 9", "2 a WORD that is no name: of a FIELD to be told, of one ahead that is a day or span; at it.");
        due.badNotice("a:day", 2, "^b=1");
        due.badNotice("a:day;b:word?", 2, "a=1;  ^ab=1");
        due.badNotice("a:day;b:span 1 days a", 2, "^b=1");
        due.badNotice("a:day;b:span 1 work a", 2, "a=1;^b=2");
        due.badNotice("a:one p/q", 2, "^p=p");
        due.badForm(2, "a:day;b:span 1 days ^b");
        due.badForm(2, "b:span 1 work  ^a;a:day");
        due.badForm(2, "a:num 1..2;b:span 1 days ^a");
        due.badForm(2, "a:word;b:span 1 days ^a");
        due.badForm(2, "a:one p;b:span 1 days ^a");
        due.badForm(2, "a:span 1 days ^day");
        due.goodForm("a:day;b:span 1 days a;c:span 1 days b;d:span 1 work a");
    }

    private void twice() {
        due.term("promises 8 and 9", "3 TWICE: a FIELD's name in a FORM, a WORD of one, an ENTRY's name: at the second.");
        due.badForm(3, "a:day;^a:day");
        due.badForm(3, "a:day;b:word;^a:word");
        due.badForm(3, "a:day;b:span 1 days a;^b:day");
        due.badForm(3, "a:day;b:day;c:day;d:day;e:day;f:day;g:day;^a:day");
        due.badForm(3, "a:one p/^p");
        due.badForm(3, "a:one p/q/r/^q");
        due.badForm(3, "a:one p/q/r/ ^r");
        due.goodForm("a:one a/b;b:one a/b");
        due.badNotice("a:day;b:day?", 3, "a=1;^a=1");
        due.badNotice("a:day;b:day?", 3, "a=0;b=0; ^a=1");
        due.badNotice("a:one p/q;b:day?", 3, "a=p;^a=p");
        due.badNotice(EIGHT, 3, "a=1;b=1;c=1;d=1;e=1;f=1;g=1;h=1;^h=1");
        due.badNotice(EIGHT, 3, "a=1;b=1;c=1;d=1;e=1;f=1;g=1;h=1;^a=1");
    }

    private void notItsKind() {
        due.term("promises 8 and 9", "4 a VALUE that is not its KIND's: another TOKEN that is a WORD or NUMBER,"
                + " a NUMBER not between, a WORD that is none of one's;");
        due.badNotice("a:num 1..2", 4, "a=^x");
        due.badNotice("a:day", 4, "a=^x");
        due.badNotice("a:word", 4, "a= ^1");
        due.badNotice("a:one p/q", 4, "a=^1");
        due.badNotice("a:num 1..2", 1, "a=^;");
        due.badNotice("a:day", 1, "a=^:");
        due.badNotice("a:word", 1, "a=^/");
        due.badNotice("a:one p/q", 1, "a=^=");
        due.badNotice("a:num 5..7", 4, "a=^4");
        due.badNotice("a:num 5..7", 4, "a=^8");
        due.badNotice("a:num 5..5", 4, "a=^0");
        due.badNotice("a:num 0..0", 4, "a=^9999");
        due.goodNotice("a:num 5..7", "a=5");
        due.goodNotice("a:num 5..7", "a=7");
        due.badNotice("a:one p/q", 4, "a=^r");
        due.badNotice("b:one r;a:one p/q", 4, "a=^r");
        due.badNotice("a:one p/q;b:one r", 4, "a=^r");
        due.goodNotice("a:one p/q", "a=q");

        due.term("promises 8 and 9", "a num whose second NUMBER is less than its first (at the second).");
        due.badForm(4, "a:num 9..^8");
        due.badForm(4, "a:num 9999.. ^0");
        due.badForm(4, "a:num 1..^0000?");
        due.goodForm("a:num 8..8");
        due.goodForm("a:num 09..9");
        due.goodForm("a:num 9..10");
    }

    private void many() {
        due.term("promises 8 and 9", "5 MANY: a ninth FIELD, a fifth WORD of one: at it.");
        due.goodForm(EIGHT);
        due.badForm(5, EIGHT + ";^i:day");
        due.badForm(5, EIGHT + "; \n^i");
        due.badForm(5, EIGHT + ";^i@");
        due.goodForm("a:one p/q/r/s");
        due.badForm(5, "a:one p/q/r/s/^t");
        due.badForm(5, "a:one p/q/r/s/ ^t?");
        due.badForm(5, "b:day;a:one p/q/r/s/^t;b:day");
        due.goodForm("a:one p/q/r/s;b:one p/q/r/s");
    }

    private void lacksAtTheEnd() {
        due.term("promises 8 to 10", "6 LACKS: the end, where a FIELD without ? (that is no span) has no ENTRY; lacks() tells the first such.");
        lacksIs("a:day;b:day;c:day", "a=1^", 1);
        lacksIs("a:day;b:day;c:day", "c=1^", 0);
        lacksIs("a:day;b:day;c:day", "a=1;b=1^", 2);
        lacksIs("a:day?;b:span 1 days a;c:word?;d:one p/q", "c=x^", 3);
        lacksIs("a:day;b:day", "a=1 \n ^", 1);
        lacksIs(EIGHT, "g=1;f=1;e=1;d=1;c=1;b=1;a=1^", 7);
        lacksIs("a:num 0..0;b:word?", "b=x^", 0);
        due.goodNotice("a:day?;b:span 1 days a;c:word", "c=x");
    }

    private void lacksIs(String form, String marked, int which) {
        GazetteHouse x = due.badNotice(form, 6, marked);
        due.is("lacks() of '" + marked + "'", x.lacks(), which);
    }

    // ---- promises 8 to 10

    private void fault() {
        due.promise(8, "The FAULT of the latest form(), notice() that was not refused by 1 or 2;");
        GazetteHouse x = Due.house("a:day;b:day?", "a:word");
        Due.form(x, "a:num 2..1");
        due.is("fault() of a form", x.fault(), 4);
        due.refused(x, "form(1)", x.form(1), 2);
        due.is("fault() behind form() by 2", x.fault(), 4);
        due.refused(x, "notice(9, 0, 1, 0)", x.notice(9, 0, 1, 0), 1);
        due.is("fault() behind notice() by 1", x.fault(), 4);
        due.refused(x, "notice(0, 0, 0, 0)", x.notice(0, 0, 0, 0), 2);
        due.is("fault() behind notice() by 2", x.fault(), 4);
        x.feast(3, true);
        x.working(-1);
        x.issue(-1, 0, 0, 0);
        x.undo();
        x.feed(0, 0, 0, 0, 0);
        due.is("fault() behind other calls", x.fault(), 4);
        x.form(0);
        due.is("fault() of the next form", x.fault(), 1);
        Due.notice(x, 0, "c=1", 1, 0);
        due.is("fault() of a notice", x.fault(), 2);
        Due.notice(x, 0, "a=1;a=1", 1, 0);
        due.is("fault() of the next notice", x.fault(), 3);
        Due.form(x, "a:one p/q/r/s/t");
        due.is("fault() of a form behind notices", x.fault(), 5);
        Due.notice(x, 0, "b=1", 1, 0);
        due.is("fault() of one that lacks", x.fault(), 6);

        due.promise(8, "0 without one.");
        due.is("fault() of a new house", new GazetteHouse().fault(), 0);
        Due.notice(x, 0, "a=1", 1, 0);
        due.is("fault() of a notice that was taken", x.fault(), 0);
        Due.notice(x, 0, "c=1", 1, 0);
        Due.form(x, "a:day");
        due.is("fault() of a form that was taken", x.fault(), 0);
        GazetteHouse y = new GazetteHouse();
        for (int i = 0; i < 12; i++) {
            Due.form(y, "a:day");
        }
        Due.form(y, "a");
        due.is("fault()", y.fault(), 1);
        due.refused(y, "form, the 13th", Due.form(y, "a:day"), 3);
        due.is("fault() of a form without room", y.fault(), 0);
        for (int i = 0; i < 60; i++) {
            Due.notice(y, 0, "a=1", 1, 0);
        }
        Due.form(y, "a");
        due.refused(y, "notice, the 61st", Due.notice(y, 0, "a=1", 1, 0), 3);
        due.is("fault() of a notice without room", y.fault(), 0);
    }

    private void where() {
        due.promise(9, "The place of a FAULT, if the latest call that may be refused was by 4; NONE else.");
        due.is("where() of a new house", new GazetteHouse().where(), -1);
        for (int call = 0; call < 20; call++) {
            GazetteHouse x = Due.house("a:day");
            Due.notice(x, 0, "a=1", 1, 0);
            Due.form(x, "a:num 2..1");
            due.is("where()", x.where(), 9);
            mayBeRefused(x, call);
            due.is("where() behind call " + call + ", which may be refused", x.where(), -1);
            due.is("fault() behind it", x.fault(), call == 3 || call == 5 ? 0 : 4);
        }
        GazetteHouse x = Due.house("a:day");
        Due.form(x, "a:num 2..1");
        askAll(x);
        due.is("where() behind questions", x.where(), 9);
        Due.notice(x, 0, "a=x", 1, 0);
        due.is("where() of a notice", x.where(), 2);
        Due.notice(x, 0, "a=1", 1, 0);
        due.is("where() of a notice that was taken", x.where(), -1);
    }

    /** Each call for which the document tells a TROUBLE, accepted and refused. */
    private static void mayBeRefused(GazetteHouse x, int call) {
        switch (call) {
            case 0 -> x.feast(3, true);
            case 1 -> x.feast(-1, true);
            case 2 -> x.form(1);
            case 3 -> Due.form(x, "a:day");
            case 4 -> x.notice(1, 0, 1, 0);
            case 5 -> Due.notice(x, 0, "a=1", 1, 0);
            case 6 -> x.working(0);
            case 7 -> x.working(-1);
            case 8 -> x.after(0, 0, true);
            case 9 -> x.after(0, -1, true);
            case 10 -> x.says(0, 0, 0, 0);
            case 11 -> x.says(0, -1, 0, 0);
            case 12 -> x.corrects(0, 0);
            case 13 -> x.corrects(1, 0);
            case 14 -> x.renames(0, 1, 2);
            case 15 -> x.renames(0, 1, 1);
            case 16 -> x.strikes(0, 1);
            case 17 -> x.strikes(0, 0);
            case 18 -> x.issue(0, 1, 1, 10);
            default -> x.issue(0, 0, 1, 10);
        }
    }

    private static void askAll(GazetteHouse x) {
        x.fault();
        x.where();
        x.lacks();
        x.field(0, 9, 0);
        x.fields(9);
        x.value(9, 9);
        x.about(9, 9);
        x.issued(9, 9);
        x.printed(9, 9);
        x.law(-1, 0, 0);
        x.source(-1, 0, 0);
        x.isVoid(-1, 0);
        x.changes(-1, 0);
        x.find(0, 0);
        x.found(0);
        x.struck(0, 0);
        x.count(9);
        x.trouble();
    }

    private void lacks() {
        due.promise(10, "Which FIELD lacks, if the FAULT is 6; NONE else.");
        due.is("lacks() of a new house", new GazetteHouse().lacks(), -1);
        GazetteHouse x = Due.house("a:day?;b:day;c:day;d:span 1 days a");
        Due.notice(x, 0, "a=1;c=1", 1, 0);
        due.is("lacks()", x.lacks(), 1);
        x.working(3);
        due.is("lacks() behind a call that was accepted, the FAULT still being 6", x.lacks(), 1);
        x.form(99);
        due.is("lacks() behind one that was refused by 2", x.lacks(), 1);
        Due.notice(x, 0, "a=1;b=1", 1, 0);
        due.is("lacks() of the next", x.lacks(), 2);
        Due.notice(x, 0, "a=1;b=1;", 1, 0);
        due.is("lacks() of a text with FAULT 1 at its end", x.lacks(), -1);
        Due.notice(x, 0, "a=1;b=1", 1, 0);
        due.is("lacks()", x.lacks(), 2);
        Due.notice(x, 0, "b=1;c=1", 1, 0);
        due.is("lacks() of one that was taken, though a and d lack", x.lacks(), -1);
        Due.notice(x, 0, "a=1", 1, 0);
        due.is("lacks()", x.lacks(), 1);
        Due.form(x, "a:day");
        due.is("lacks() of a form", x.lacks(), -1);
    }
}
