import java.util.ArrayList;
import java.util.List;

/** What the tests share: they tell the answers that are not due, and end with 1 if there was one. */
final class Due {
    /** A sentence of the document that a test stands for, and how many answers had been asked ahead of it. */
    record Sentence(String section, String words, int askedAhead) { }

    private int wrong;
    private int asked;
    private String part = "";
    private final List<Sentence> sentences = new ArrayList<>();

    void part(String name) {
        part = name;
    }

    /** What follows stands for these words of a promise. */
    void promise(int number, String words) {
        begin("Promise " + number, "promise " + number, words);
    }

    /** What follows stands for these words of the Terms, which the promises named rest on. */
    void term(String promises, String words) {
        begin("Terms", promises + " by the Terms", words);
    }

    private void begin(String section, String who, String words) {
        endSentence();
        sentences.add(new Sentence(section, words, asked));
        part(who + ", \"" + words + "\"");
    }

    private void endSentence() {
        boolean idle = !sentences.isEmpty() && sentences.get(sentences.size() - 1).askedAhead == asked;
        if (idle) {
            is("no answer is asked for this sentence", 1, 0);
        }
    }

    /** The sentences that the tests said they stand for. */
    List<Sentence> sentences() {
        endSentence();
        return sentences;
    }

    void is(String call, long got, long want) {
        asked++;
        if (got != want) {
            wrong++;
            System.out.println(part + ": " + call + " answered " + got + ", due is " + want);
        }
    }

    void is(String call, boolean got, boolean want) {
        is(call, got ? 1 : 0, want ? 1 : 0);
    }

    /** A call that was accepted, with its answer and its trouble. */
    void taken(GazetteHouse x, String call, int got, int want) {
        is(call, got, want);
        is("trouble() behind " + call, x.trouble(), 0);
    }

    void taken(GazetteHouse x, String call, boolean got) {
        taken(x, call, got ? 1 : 0, 1);
    }

    /** A call that was refused, with its answer and its trouble. */
    void refused(GazetteHouse x, String call, int got, int trouble) {
        is(call, got, GazetteHouse.NONE);
        is("trouble() behind " + call, x.trouble(), trouble);
    }

    void refused(GazetteHouse x, String call, boolean got, int trouble) {
        is(call, got, false);
        is("trouble() behind " + call, x.trouble(), trouble);
    }

    /** A form's text that a new house takes. */
    GazetteHouse goodForm(String text) {
        GazetteHouse x = new GazetteHouse();
        taken(x, "form '" + text + "'", form(x, text), 0);
        is("fault() of '" + text + "'", x.fault(), 0);
        is("where() of '" + text + "'", x.where(), -1);
        return x;
    }

    /** A form's text with a fault at the ^, which is no part of it. */
    void badForm(int fault, String marked) {
        badForm(fault, marked.indexOf('^'), marked.replace("^", ""));
    }

    void badForm(int fault, int place, String text) {
        GazetteHouse x = new GazetteHouse();
        refused(x, "form '" + text + "'", form(x, text), 4);
        faultIs(x, text, fault, place);
        is("count(1) behind '" + text + "'", x.count(1), 0);
    }

    /** A notice's text that a new house takes, by a form. */
    GazetteHouse goodNotice(String form, String text) {
        GazetteHouse x = goodForm(form);
        taken(x, "notice '" + text + "'", notice(x, 0, text, 1, 0), 0);
        is("fault() of '" + text + "'", x.fault(), 0);
        is("where() of '" + text + "'", x.where(), -1);
        return x;
    }

    /** A notice's text, by a form, with a fault at the ^, which is no part of it. */
    GazetteHouse badNotice(String form, int fault, String marked) {
        return badNotice(form, fault, marked.indexOf('^'), marked.replace("^", ""));
    }

    GazetteHouse badNotice(String form, int fault, int place, String text) {
        GazetteHouse x = goodForm(form);
        refused(x, "notice '" + text + "' by '" + form + "'", notice(x, 0, text, 1, 0), 4);
        faultIs(x, text, fault, place);
        is("count(2) behind '" + text + "'", x.count(2), 0);
        return x;
    }

    private void faultIs(GazetteHouse x, String text, int fault, int place) {
        is("fault() of '" + text + "'", x.fault(), fault);
        is("where() of '" + text + "'", x.where(), place);
        is("lacks() of '" + text + "' tells a field", x.lacks() != GazetteHouse.NONE, fault == 6);
        is("count(6) behind '" + text + "'", x.count(6), 0);
    }

    void end() {
        System.out.println(asked + " answers, " + wrong + " not as due");
        if (wrong != 0) {
            System.exit(1);
        }
    }

    /** A new house with these forms. */
    static GazetteHouse house(String... forms) {
        GazetteHouse x = new GazetteHouse();
        for (String form : forms) {
            form(x, form);
        }
        return x;
    }

    /** Feeds a text, with blanks behind it up to the next twenty; answers how long it is. */
    static int feed(GazetteHouse x, String text) {
        StringBuilder all = new StringBuilder(text);
        while (all.length() % 20 != 0) {
            all.append(' ');
        }
        for (int at = 0; at < all.length(); at += 20) {
            x.feed(four(all, at), four(all, at + 4), four(all, at + 8), four(all, at + 12), four(all, at + 16));
        }
        return text.length();
    }

    private static int four(CharSequence text, int at) {
        int bytes = 0;
        for (int i = 0; i < 4; i++) {
            bytes = bytes << 8 | text.charAt(at + i) & 255;
        }
        return bytes;
    }

    static int form(GazetteHouse x, String text) {
        return x.form(feed(x, text));
    }

    static int notice(GazetteHouse x, int form, String text, int lines, int due) {
        return x.notice(form, feed(x, text), lines, due);
    }

    static long word(String letters) {
        long number = 0;
        for (int i = 0; i < letters.length(); i++) {
            number = number * 32 + letters.charAt(i) - 'a' + 1;
        }
        return number;
    }
}
