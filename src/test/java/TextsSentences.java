/** Term II up to its faults and promises 5 to 7, sentence by sentence. */
final class TextsSentences {
    private static final String EIGHT = "a:day;b:day;c:day;d:day;e:day;f:day;g:day;h:day";
    private final Due due;

    TextsSentences(Due due) {
        this.due = due;
    }

    void all() {
        tape();
        blanks();
        tokens();
        runs();
        forms();
        kinds();
        spans();
        questionMarks();
        notices();
        values();
        spanDays();
        feed();
        form();
        noticeCall();
        noticeRefusals();
    }

    // ---- Term II

    private void tape() {
        due.term("promises 5 to 7", "TEXTS (THE TAPE has 400 bytes).");
        GazetteHouse x = new GazetteHouse();
        Due.feed(x, "a:day" + " ".repeat(394) + "?");
        due.is("count(6)", x.count(6), 400);
        due.refused(x, "form(401)", x.form(401), 2);
        due.taken(x, "form(400)", x.form(400), 0);
        due.is("field(0, 0, 1): the last byte was read", x.field(0, 0, 1), 1);
        Due.feed(x, "a=1" + " ".repeat(396) + "2");
        due.refused(x, "notice of 400 bytes", x.notice(0, 400, 1, 0), 4);
        due.is("where()", x.where(), 399);
    }

    private static boolean isLetter(int b) {
        return b >= 'a' && b <= 'z';
    }

    private static boolean isDigit(int b) {
        return b >= '0' && b <= '9';
    }

    private void blanks() {
        due.term("promises 6 and 7", "Blanks (32) and 10s part TOKENS and mean nothing else.");
        for (int b = 0; b < 256; b++) {
            if (b == 32 || b == 10) {
                due.goodForm("a" + (char) b + ":day");
                due.goodForm((char) b + "a:day" + (char) b + (char) b);
                due.goodNotice("a:day", "a=" + (char) b + "7");
                due.badForm(1, 2, "a" + (char) b + "b:day");
                due.badForm(1, 3, "a:" + (char) b + "d" + (char) b + "ay");
                due.badForm(1, 8, "a:num 1" + (char) b + "2..3");
                due.badForm(1, 7, "a:num 1." + (char) b + ".2");
            } else if (!isLetter(b)) {
                due.badForm(1, b == ':' ? 2 : 1, "a" + (char) b + ":day");
            }
        }
        due.goodForm("\n\n a \n:\n num \n 3 \n..\n 9 \n ?\n \n");
        due.goodForm("a:num3..9?");
    }

    private void tokens() {
        due.term("promises 6 and 7", "TOKENS: WORDS (1 to 8 small letters), NUMBERS (1 to 4 digits), .. and single ones of : ; ? / = .");
        due.goodForm("a:day");
        due.goodForm("abcdefgz:day");
        due.badForm(1, "^abcdefghi:day");
        due.badForm(1, "^Abc:day");
        due.badForm(1, "a^B:day");
        due.goodForm("a:num 0..9");
        due.goodForm("a:num 1000..9999");
        due.badForm(1, "a:num ^10000..9999");
        due.badForm(1, "a:num 0..^00001");
        due.badForm(1, "a:num 1^.2");
        due.badForm(1, "a:num 1..^.2");
        due.badForm(1, "a:num 1..2^..");
        due.badForm(1, "a:num 1..2^.");
        due.badForm(1, "a:^:day");
        due.badForm(1, "a:one x/^/y");
        due.badForm(1, "a:day;^;");
        due.badNotice("a:day", 1, "a=^=1");
        onFirstPlace();
        onLastPlace();
    }

    /** Of a text of one byte: a word goes on, so its fault is at the end, and so is a blank's. */
    private void onFirstPlace() {
        for (int b = 0; b < 256; b++) {
            boolean goesOn = isLetter(b) || b == 32 || b == 10;
            due.badForm(1, goesOn ? 1 : 0, "" + (char) b);
        }
    }

    private void onLastPlace() {
        for (int b = 0; b < 256; b++) {
            String text = "a:day" + (char) b;
            if (b == 32 || b == 10 || b == '?') {
                due.goodForm(text);
            } else if (isLetter(b)) {
                due.badForm(1, 2, text);
            } else {
                due.badForm(1, b == ';' ? 6 : 5, text);
            }
        }
    }

    private void runs() {
        due.term("promises 6 and 7", "Letters that stand together are one, digits that do another; more of them are none.");
        due.goodForm("a:num3..9;b:day;c:span5days b;d:span5work b");
        due.badForm(1, "a^1:day");
        due.badForm(1, "^1a:day");
        due.badForm(1, "a:num3..9^x");
        due.badForm(1, "^aaaaaaaaaaaaaaaaa:day");
        due.badForm(1, "a:num ^123456789..1");
        due.badForm(1, "a:num ^99999999999999999999..1");
        due.badNotice("a:word", 1, "a=^aaaaaaaaa");
        due.badNotice("a:day", 1, "a=^00001");
        due.badNotice("a:day", 1, "a=1^a");
        due.badNotice("a:word", 1, "a=a^1");
        for (int digit = '0'; digit <= '9'; digit++) {
            GazetteHouse x = due.goodNotice("a:day", "a=1" + (char) digit);
            due.is("value(0, 0)", x.value(0, 0), 10 + digit - '0');
        }
    }

    private void forms() {
        due.term("promise 6", "FORM: FIELD {; FIELD}.");
        due.badForm(1, "^");
        due.badForm(1, "   ^");
        due.is("fields(0) of one", due.goodForm("a:day").fields(0), 1);
        due.is("fields(0) of two", due.goodForm("a:day;b:day").fields(0), 2);
        due.is("fields(0) of eight", due.goodForm(EIGHT).fields(0), 8);
        due.badForm(1, "^;a:day");
        due.badForm(1, "a:day;^");
        due.badForm(1, "a:day;^;b:day");
        due.badForm(1, "a:^dayb:day");
        due.badForm(1, "a:day ^b:day");
        due.badForm(1, "a:day ^/ b:day");

        due.term("promise 6", "FIELD: WORD : KIND [?].");
        due.badForm(1, "^3:day");
        due.badForm(1, "^:day");
        due.badForm(1, "a^");
        due.badForm(1, "a ^day");
        due.badForm(1, "a^=day");
        due.badForm(1, "a:^");
        due.badForm(1, "a:^?");
        due.badForm(1, "a:^3");
        due.badForm(1, "a:^;");
        due.badForm(1, "a:day?^?");
        due.badForm(1, "a^?:day");
        due.badForm(1, "a:^?day");
        due.goodForm("a:day?;b:day");

        due.term("promises 6 and 7", "The WORD is its name.");
        GazetteHouse x = due.goodNotice("abcdefgh:day?;abcdefg:day?;bcdefgh:day?;h:day?", "bcdefgh=3;h=4;abcdefgh=1;abcdefg=2");
        for (int i = 0; i < 4; i++) {
            due.is("value(0, " + i + ")", x.value(0, i), i + 1);
        }
        due.goodForm("num:num 1..2;day:day;word:word;one:one one/two;span:span 1 days day;days:span 1 work span;work:day?");
    }

    private void kinds() {
        due.term("promises 6 and 11", "KIND: num NUMBER .. NUMBER");
        kindIs("num 0..0", 0, 0, 0);
        kindIs("num 7..7", 0, 7, 7);
        kindIs("num 0..9999", 0, 0, 9_999);
        kindIs("num 0009..09", 0, 9, 9);
        due.badForm(1, "a:num^");
        due.badForm(1, "a:num ^x..9");
        due.badForm(1, "a:num ^..9");
        due.badForm(1, "a:num 3 ^9");
        due.badForm(1, "a:num 3^;");
        due.badForm(1, "a:num 3..^");
        due.badForm(1, "a:num 3..^x");
        due.badForm(1, "a:num 3..9^..10");

        due.term("promises 6 and 11", "| day | word");
        kindIs("day", 1, 0, 0);
        kindIs("word", 2, 0, 0);
        due.badForm(1, "a:day^5");
        due.badForm(1, "a:word ^x");
        due.badForm(1, "a:^days");
        due.badForm(1, "a:^words");
        due.badForm(1, "a:^wor");
        due.badForm(1, "a:^da");
        due.badForm(1, "a:^work");
        due.badForm(1, "a:^a");

        due.term("promises 6 and 11", "| one WORD {/ WORD} (1 to 4)");
        kindIs("one p", 3, 1, 0);
        kindIs("one p/q", 3, 2, 0);
        kindIs("one p/q/r/s", 3, 4, 0);
        kindIs("one abcdefgh / abcdefgg", 3, 2, 0);
        kindIs("one a", 3, 1, 0);
        due.badForm(1, "a:one^");
        due.badForm(1, "a:one ^?");
        due.badForm(1, "a:one ^/q");
        due.badForm(1, "a:one ^3");
        due.badForm(1, "a:one p/^");
        due.badForm(1, "a:one p/^3");
        due.badForm(1, "a:one p/^?");
        due.badForm(1, "a:one p ^q");
        due.badForm(5, "a:one p/q/r/s/^t");
    }

    /** The kind of a field, what its numbers tell, and that no ? is there. */
    private void kindIs(String kind, int number, int first, int second) {
        GazetteHouse x = due.goodForm("a: " + kind);
        due.is("field(0, 0, 0) of " + kind, x.field(0, 0, 0), number);
        due.is("field(0, 0, 1) of " + kind, x.field(0, 0, 1), 0);
        due.is("field(0, 0, 2) of " + kind, x.field(0, 0, 2), first);
        due.is("field(0, 0, 3) of " + kind, x.field(0, 0, 3), second);
    }

    private void spans() {
        due.term("promises 6 and 11", "| span NUMBER days WORD | span NUMBER work WORD,"
                + " the WORD being the name of a FIELD ahead of it that is a day or a span.");
        GazetteHouse x = due.goodForm("x:word;a:day;b:span 0 days a;c:span 9999 work b;d:span 3 days c;e:day?;f:span 1 work e");
        int[][] want = {{1, 0, 0}, {4, 0, 1}, {5, 9_999, 2}, {4, 3, 3}, {1, 0, 0}, {5, 1, 5}};
        for (int i = 1; i <= want.length; i++) {
            due.is("field(0, " + i + ", 0)", x.field(0, i, 0), want[i - 1][0]);
            due.is("field(0, " + i + ", 2)", x.field(0, i, 2), want[i - 1][1]);
            due.is("field(0, " + i + ", 3)", x.field(0, i, 3), want[i - 1][2]);
        }
        due.badForm(1, "a:day;b:span^");
        due.badForm(1, "a:day;b:span ^days a");
        due.badForm(1, "a:day;b:span ^10000 days a");
        due.badForm(1, "a:day;b:span 3^");
        due.badForm(1, "a:day;b:span 3 ^a");
        due.badForm(1, "a:day;b:span 3 ^day a");
        due.badForm(1, "a:day;b:span 3 ^word a");
        due.badForm(1, "a:day;b:span 3 ^4");
        due.badForm(1, "a:day;b:span 3 days^");
        due.badForm(1, "a:day;b:span 3 work ^3");
        due.badForm(1, "a:day;b:span 3 work ^;");
        due.badForm(2, "a:day;b:span 3 days ^b");
        due.badForm(2, "a:day;b:span 3 days ^c;c:day");
        due.badForm(2, "a:day;b:span 3 days ^aa");
        due.badForm(2, "a:num 1..2;b:span 3 days ^a");
        due.badForm(2, "a:word;b:span 3 work ^a");
        due.badForm(2, "a:one p/q;b:span 3 work ^a");
        due.badForm(2, "a:one p/q;b:span 3 work ^p");
        due.badForm(2, "a:span 3 work ^a");
    }

    private void questionMarks() {
        due.term("promises 6, 7, 11 and 13", "? : it may lack (a span has none: it lacks if that one does).");
        String form = "a:num 1..2?;b:day?;c:word?;d:one p/q?;e:span 1 days b;f:span 0 work e;g:day?";
        GazetteHouse x = due.goodNotice(form, "g=5");
        for (int i = 0; i < 6; i++) {
            due.is("value(0, " + i + ")", x.value(0, i), -1);
            due.is("field(0, " + i + ", 1)", x.field(0, i, 1), i < 4 ? 1 : 0);
        }
        due.taken(x, "notice", Due.notice(x, 0, "b=0", 1, 0), 1);
        due.is("value(1, 4)", x.value(1, 4), 1);
        due.is("value(1, 5)", x.value(1, 5), 1);
        due.badForm(1, "a:day;b:span 1 days a^?");
        due.badForm(1, "a:day?;b:span 1 work a ^?");
        due.badNotice("a:num 1..2;b:word?", 6, "b=x^");
        due.badNotice("a:day;b:word?", 6, "b=x^");
        due.badNotice("a:word;b:word?", 6, "b=x^");
        due.badNotice("a:one p;b:word?", 6, "b=x^");
    }

    private void notices() {
        due.term("promise 7", "NOTICE by a FORM: ENTRY {; ENTRY}.");
        due.badNotice("a:day?", 1, "^");
        due.badNotice("a:day?", 1, "  ^");
        due.goodNotice("a:day?", "a=1");
        due.goodNotice(EIGHT, "h=1;g=1;f=1;e=1;d=1;c=1;b=1;a=1");
        due.badNotice("a:day?", 1, "^;");
        due.badNotice("a:day?;b:day?", 1, "a=1;^");
        due.badNotice("a:day?;b:day?", 1, "a=1;^;b=1");
        due.badNotice("a:day?;b:day?", 1, "a=1^b=1");
        due.badNotice("a:day?;b:day?", 1, "a=1^?");

        due.term("promise 7", "ENTRY: WORD = VALUE, the WORD the name of a FIELD that is no span;");
        String form = "a:day?;b:span 1 days a;c:span 1 work b;d:word?";
        due.badNotice(form, 1, "^3=a");
        due.badNotice(form, 1, "^=3");
        due.badNotice(form, 1, "a^");
        due.badNotice(form, 1, "a^:3");
        due.badNotice(form, 1, "a ^3");
        due.badNotice(form, 1, "a=^");
        due.badNotice(form, 1, "a=^;");
        due.badNotice(form, 2, "^b=3");
        due.badNotice(form, 2, "a=3;^c=3");
        due.badNotice(form, 2, "a=3;^aa=3");
        due.goodNotice(form, "d=x");
    }

    private void values() {
        due.term("promises 7 and 13", "VALUE: of num, day a NUMBER (of num between its two; of one day any),"
                + " of word a WORD, of one one of its WORDS.");
        valueIs("num 3..9", "3", 3);
        valueIs("num 3..9", "0009", 9);
        valueIs("num 0..0", "0", 0);
        valueIs("num 9999..9999", "9999", 9_999);
        due.badNotice("a:num 3..9", 4, "a=^2");
        due.badNotice("a:num 3..9", 4, "a=^10");
        due.badNotice("a:num 3..9", 4, "a=^x");
        valueIs("day", "0", 0);
        valueIs("day", "0000", 0);
        valueIs("day", "9999", 9_999);
        due.badNotice("a:day", 4, "a=^day");
        due.badNotice("a:day", 1, "a=^10000");
        valueIs("word", "a", 1);
        valueIs("word", "zzzzzzzz", Due.word("zzzzzzzz"));
        due.badNotice("a:word", 4, "a=^5");
        due.badNotice("a:word", 1, "a=^zzzzzzzzz");
        valueIs("one p/q/r/s", "p", 0);
        valueIs("one p/q/r/s", "s", 3);
        due.badNotice("a:one p/q/r/s", 4, "a=^t");
        due.badNotice("a:one p/q/r/s", 4, "a=^pq");
        due.badNotice("a:one p/q/r/s", 4, "a=^a");
        due.badNotice("a:one p/q/r/s", 4, "a=^0");
    }

    private void valueIs(String kind, String value, long want) {
        GazetteHouse x = due.goodNotice("a: " + kind, "a=" + value);
        due.is("value(0, 0) of " + kind + ", " + value, x.value(0, 0), want);
    }

    private void spanDays() {
        due.term("promises 4 and 13", "A SPAN's day: of days: its NUMBER behind the other FIELD's day,"
                + " or, if that is no WORKING day, the next one that is;");
        spanIs("span 0 days", 4, 4);
        spanIs("span 0 days", 5, 8);
        spanIs("span 0 days", 7, 8);
        spanIs("span 1 days", 4, 8);
        spanIs("span 4 days", 4, 8);
        spanIs("span 5 days", 4, 9);
        spanIs("span 9999 days", 0, 9_999);

        due.term("promises 4 and 13", "of work: the WORKING day that is the NUMBER-th behind it (of 0: the day itself).");
        spanIs("span 0 work", 4, 4);
        spanIs("span 0 work", 5, 5);
        spanIs("span 0 work", 7, 7);
        spanIs("span 1 work", 4, 8);
        spanIs("span 1 work", 7, 8);
        spanIs("span 2 work", 4, 9);
        spanIs("span 5 work", 4, 14);

        due.term("promises 4 and 13", "10,000 if it were beyond 9,999, or the other one's is.");
        spanIs("span 0 days", 9_999, 9_999);
        spanIs("span 1 days", 9_999, 10_000);
        spanIs("span 0 work", 9_999, 9_999);
        spanIs("span 1 work", 9_999, 10_000);
        spanIs("span 9999 days", 1, 10_000);
        spanIs("span 9999 work", 0, 10_000);
        spanIs("span 9999 days", 9_999, 10_000);
        spanIs("span 9999 work", 9_999, 10_000);
        GazetteHouse x = due.goodNotice("a:day;b:span 1 days a;c:span 0 days b;d:span 0 work b;e:span 1 work d;f:span 9999 days c", "a=9999");
        for (int i = 1; i <= 5; i++) {
            due.is("value(0, " + i + ")", x.value(0, i), 10_000);
        }
        x.feast(9_999, true);
        due.taken(x, "form", Due.form(x, "a:day;b:span 0 days a;c:span 0 work a"), 1);
        due.taken(x, "notice", Due.notice(x, 1, "a=9999", 1, 0), 1);
        due.is("value(1, 1): the last day is a feast", x.value(1, 1), 10_000);
        due.is("value(1, 2): the day itself", x.value(1, 2), 9_999);
    }

    /** Day 7 is a feast, as are no others; after() answers the same. */
    private void spanIs(String span, int day, int want) {
        GazetteHouse x = due.goodForm("a:day;b:" + span + " a");
        x.feast(7, true);
        due.taken(x, "notice", Due.notice(x, 0, "a=" + day, 1, 0), 0);
        due.is("value(0, 1) of " + span + " behind " + day, x.value(0, 1), want);
        due.is("after, as " + span, x.after(day, x.field(0, 1, 2), x.field(0, 1, 0) == 5), want);
    }

    // ---- promises 5 to 7

    private void feed() {
        due.promise(5, "Twenty bytes come behind THE TAPE, of each number the highest first: how many it has;");
        GazetteHouse x = new GazetteHouse();
        due.is("feed 'a:day;b:word;c:one '", x.feed(0x613a6461, 0x793b623a, 0x776f7264, 0x3b633a6f, 0x6e652020), 20);
        due.is("feed 'p/q;d:num 3..9     '", x.feed(0x702f713b, 0x643a6e75, 0x6d20332e, 0x2e392020, 0x20202020), 40);
        due.is("count(6)", x.count(6), 40);
        due.is("form(40)", x.form(40), 0);
        due.is("fields(0)", x.fields(0), 4);
        due.is("field(0, 3, 3)", x.field(0, 3, 3), 9);
        due.is("feed, the tape being empty again", x.feed(-1, -1, -1, -1, -1), 20);
        due.is("form(20)", x.form(20), -1);
        due.is("where(): a byte of 255", x.where(), 0);
        for (int place = 0; place < 20; place++) {
            wrongByteAt(place);
        }

        due.promise(5, "NONE, and none comes, if there would be more than 400.");
        GazetteHouse y = new GazetteHouse();
        for (int i = 1; i <= 20; i++) {
            due.is("feed", y.feed(0x20202020, 0x20202020, 0x20202020, 0x20202020, 0x20202020), i * 20);
        }
        due.is("feed, the 21st", y.feed(0, 0, 0, 0, 0), -1);
        due.is("feed, the 22nd", y.feed(0, 0, 0, 0, 0), -1);
        due.is("count(6)", y.count(6), 400);
        due.is("form(400)", y.form(400), -1);
        due.is("where(): all are blanks", y.where(), 400);
        due.is("feed", y.feed(0x613a6461, 0x79202020, 0x20202020, 0x20202020, 0x20202020), 20);
        due.is("form(20)", y.form(20), 0);
    }

    /** Blanks, but for one byte: each byte of the five numbers stands at its own place. */
    private void wrongByteAt(int place) {
        GazetteHouse x = new GazetteHouse();
        int[] five = {0x20202020, 0x20202020, 0x20202020, 0x20202020, 0x20202020};
        five[place / 4] |= 0xe1 << 24 - place % 4 * 8;
        due.is("feed", x.feed(five[0], five[1], five[2], five[3], five[4]), 20);
        due.is("form(20)", x.form(20), -1);
        due.is("where()", x.where(), place);
    }

    private void form() {
        due.promise(6, "The first n bytes of THE TAPE (it is empty then) are a FORM: its number.");
        GazetteHouse x = new GazetteHouse();
        Due.feed(x, "a:day;b:day;c:day?@@");
        due.taken(x, "form(5)", x.form(5), 0);
        due.is("count(6)", x.count(6), 0);
        due.is("fields(0)", x.fields(0), 1);
        due.refused(x, "form(1): the rest is gone, too", x.form(1), 2);
        Due.feed(x, "a:day;b:day;c:day?@@");
        due.taken(x, "form(11)", x.form(11), 1);
        due.is("fields(1)", x.fields(1), 2);
        Due.feed(x, "a:day;b:day;c:day?  ");
        due.taken(x, "form(20), the whole tape", x.form(20), 2);
        due.is("fields(2)", x.fields(2), 3);

        due.promise(6, "NONE: 2 (THE TAPE stays); 4; 3.");
        GazetteHouse y = new GazetteHouse();
        due.refused(y, "form(1) of an empty tape", y.form(1), 2);
        due.refused(y, "form(0) of an empty tape", y.form(0), 4);
        Due.feed(y, "a:day");
        int[] none = {-1, 21, 400, Integer.MIN_VALUE, Integer.MAX_VALUE};
        for (int n : none) {
            due.refused(y, "form(" + n + ")", y.form(n), 2);
        }
        due.is("count(6)", y.count(6), 20);
        due.taken(y, "form(5)", y.form(5), 0);
        due.refused(y, "form 'a'", Due.form(y, "a"), 4);
        due.is("count(6) behind 4", y.count(6), 0);
        Due.feed(y, "a:day");
        due.refused(y, "form(0)", y.form(0), 4);
        due.is("count(6) behind a text of no byte", y.count(6), 0);
        for (int i = 1; i < 12; i++) {
            due.taken(y, "form", Due.form(y, "a:day"), i);
        }
        due.refused(y, "form, the 13th", Due.form(y, "a:day"), 3);
        due.is("count(6) behind 3", y.count(6), 0);
        due.refused(y, "form, the 13th, with a fault: 4 goes ahead of 3", Due.form(y, "a:dax"), 4);
        due.refused(y, "form(1), the 13th: 2 goes ahead of 3", y.form(1), 2);
        due.is("count(1)", y.count(1), 12);
    }

    private void noticeCall() {
        due.promise(7, "The first n bytes of THE TAPE (it is empty then) are a NOTICE by a FORM, of so many LINES and DUE on a day: its number.");
        GazetteHouse x = Due.house("a:day;b:day?", "a:word?;b:word?");
        Due.feed(x, "a=1;b=2@@");
        due.taken(x, "notice(0, 3, 1, 0)", x.notice(0, 3, 1, 0), 0);
        due.is("count(6)", x.count(6), 0);
        due.is("value(0, 0)", x.value(0, 0), 1);
        due.is("value(0, 1)", x.value(0, 1), -1);
        due.is("about(0, 1)", x.about(0, 1), 1);
        due.is("about(0, 2)", x.about(0, 2), 0);
        due.refused(x, "notice(0, 3, 1, 0): the rest is gone, too", x.notice(0, 3, 1, 0), 2);
        Due.feed(x, "a=1;b=2@@");
        due.taken(x, "notice(0, 7, 60, 9999)", x.notice(0, 7, 60, 9_999), 1);
        due.is("value(1, 1)", x.value(1, 1), 2);
        due.is("about(1, 1)", x.about(1, 1), 60);
        due.is("about(1, 2)", x.about(1, 2), 9_999);
        due.taken(x, "notice by form 1", Due.notice(x, 1, "b=z", 2, 3), 2);
        due.is("about(2, 0)", x.about(2, 0), 1);
        due.is("value(2, 1)", x.value(2, 1), 26);
        Due.feed(x, "a=3" + " ".repeat(17));
        due.taken(x, "notice(0, 20, 1, 0), the whole tape", x.notice(0, 20, 1, 0), 3);
    }

    private void noticeRefusals() {
        due.promise(7, "NONE: 1; 2 (n, LINES, DUE; both leave THE TAPE); 4; 3.");
        GazetteHouse x = new GazetteHouse();
        due.refused(x, "notice by form 0 of none", x.notice(0, 0, 1, 0), 1);
        Due.form(x, "a:day");
        Due.feed(x, "a=1");
        int[] noForms = {-1, 1, 12, Integer.MIN_VALUE, Integer.MAX_VALUE};
        for (int form : noForms) {
            due.refused(x, "notice by form " + form, x.notice(form, 3, 1, 0), 1);
            due.refused(x, "notice by form " + form + ": 1 goes ahead of 2", x.notice(form, -1, 0, -1), 1);
        }
        int[] noLengths = {-1, 21, 400, Integer.MIN_VALUE, Integer.MAX_VALUE};
        for (int n : noLengths) {
            due.refused(x, "notice of " + n + " bytes", x.notice(0, n, 1, 0), 2);
        }
        int[] noLines = {-1, 0, 61, Integer.MIN_VALUE, Integer.MAX_VALUE};
        for (int lines : noLines) {
            due.refused(x, "notice of " + lines + " lines", x.notice(0, 3, lines, 0), 2);
        }
        int[] noDays = {-1, 10_000, Integer.MIN_VALUE, Integer.MAX_VALUE};
        for (int day : noDays) {
            due.refused(x, "notice due on " + day, x.notice(0, 3, 1, day), 2);
        }
        due.refused(x, "notice of a fault and no lines: 2 goes ahead of 4", x.notice(0, 1, 0, 0), 2);
        due.is("count(6)", x.count(6), 20);
        due.refused(x, "notice(0, 1, 1, 0)", x.notice(0, 1, 1, 0), 4);
        due.is("count(6) behind 4", x.count(6), 0);
        for (int i = 0; i < 60; i++) {
            Due.notice(x, 0, "a=1", 1, 0);
        }
        due.refused(x, "notice, the 61st", Due.notice(x, 0, "a=1", 1, 0), 3);
        due.is("count(6) behind 3", x.count(6), 0);
        due.refused(x, "notice, the 61st, with a fault: 4 goes ahead of 3", Due.notice(x, 0, "a=x", 1, 0), 4);
        due.refused(x, "notice, the 61st, of no lines: 2 goes ahead of 3", x.notice(0, 0, 0, 0), 2);
        due.refused(x, "notice, the 61st, by no form: 1 goes ahead of 3", x.notice(1, 0, 1, 0), 1);
        due.is("count(2)", x.count(2), 60);
    }
}
