/** What the tests share: they tell the answers that are not due, and end with 1 if there was one. */
final class Due {
    private int wrong;
    private int asked;
    private String part = "";

    void part(String name) {
        part = name;
    }

    void is(String call, long got, long want) {
        asked++;
        if (got != want) {
            wrong++;
            System.out.println(part + ": " + call + " answered " + got + ", due is " + want);
        }
    }

    void is(String call, boolean got, boolean want) {
        is(call, got ? 1 : 0, want ? 1 : 0);
    }

    /** A call that was refused, with its answer and its trouble. */
    void refused(GazetteHouse x, String call, int got, int trouble) {
        is(call, got, GazetteHouse.NONE);
        is("trouble() behind " + call, x.trouble(), trouble);
    }

    void refused(GazetteHouse x, String call, boolean got, int trouble) {
        is(call, got, false);
        is("trouble() behind " + call, x.trouble(), trouble);
    }

    void end() {
        System.out.println(asked + " answers, " + wrong + " not as due");
        if (wrong != 0) {
            System.exit(1);
        }
    }

    /** Feeds a text, with blanks behind it up to the next twenty; answers how long it is. */
    static int feed(GazetteHouse x, String text) {
        StringBuilder all = new StringBuilder(text);
        while (all.length() % 20 != 0) {
            all.append(' ');
        }
        for (int at = 0; at < all.length(); at += 20) {
            x.feed(four(all, at), four(all, at + 4), four(all, at + 8), four(all, at + 12), four(all, at + 16));
        }
        return text.length();
    }

    private static int four(CharSequence text, int at) {
        int bytes = 0;
        for (int i = 0; i < 4; i++) {
            bytes = bytes << 8 | text.charAt(at + i) & 255;
        }
        return bytes;
    }

    static int form(GazetteHouse x, String text) {
        return x.form(feed(x, text));
    }

    static int notice(GazetteHouse x, int form, String text, int lines, int due) {
        return x.notice(form, feed(x, text), lines, due);
    }

    static long word(String letters) {
        long number = 0;
        for (int i = 0; i < letters.length(); i++) {
            number = number * 32 + letters.charAt(i) - 'a' + 1;
        }
        return number;
    }
}
