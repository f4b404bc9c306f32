/** What the tests share: feeding sources, comparing answers, telling the result. */
final class Check {
    private static final int NONE = ShareEight.NONE;

    private final String name;
    private String sentence = "";
    private int sentences = 0;
    private int ofSentence = 0;
    private int count = 0;
    private int wrong = 0;

    Check(String name) {
        this.name = name;
    }

    /** The answers from here on are tests of a sentence of the document; one without any is a failure. */
    void says(String words) {
        endSentence();
        sentence = words;
        sentences++;
        ofSentence = 0;
    }

    private void endSentence() {
        if (sentences > 0 && ofSentence == 0) {
            wrong++;
            System.out.println(name + ": no test of \"" + sentence + "\"");
        }
    }

    void due(String what, long got, long want) {
        due(what, Long.toString(got), Long.toString(want));
    }

    void due(String what, String got, String want) {
        count++;
        ofSentence++;
        if (!got.equals(want)) {
            wrong++;
            String told = sentence.isEmpty() ? "" : " by \"" + sentence + "\"";
            System.out.println(name + ": " + what + " answered " + got + ", due is " + want + told);
        }
    }

    void due(String what, boolean got, boolean want) {
        due(what, got ? 1 : 0, want ? 1 : 0);
    }

    void finish() {
        endSentence();
        String told = sentences == 0 ? "" : sentences + " sentences, ";
        System.out.println(name + ": " + told + count + " answers, " + wrong + " wrong");
        if (wrong > 0) {
            System.exit(1);
        }
    }

    /** Puts a text on the tape, behind what is there. */
    static void feed(ShareEight x, String source) {
        int before = x.look(11);
        for (int i = 0; i < source.length(); i += 20) {
            x.feed(four(source, i), four(source, i + 4), four(source, i + 8), four(source, i + 12), four(source, i + 16));
        }
        x.end(before + source.length());
    }

    private static int four(String source, int from) {
        int number = 0;
        for (int i = from; i < from + 4; i++) {
            number = (number << 8) | (i < source.length() ? source.charAt(i) & 255 : 0);
        }
        return number;
    }

    static int assemble(ShareEight x, String source) {
        feed(x, source);
        return x.assemble();
    }

    /** A source must have no fault, and so many words. */
    ShareEight words(String source, int want) {
        ShareEight x = new ShareEight(1, 1, 1, 1);
        due("words of " + source, assemble(x, source), want);
        due("fault(0) of " + source, x.fault(0), 0);
        due("fault(1) of " + source, x.fault(1), NONE);
        return x;
    }

    /** A source must make such words, from a place on. */
    void made(String source, int place, int... want) {
        ShareEight x = new ShareEight(1, 1, 1, 1);
        assemble(x, source);
        due("fault(0) of " + source, x.fault(0), 0);
        for (int i = 0; i < want.length; i++) {
            due("made(" + Integer.toOctalString(place + i) + ") of " + source, x.made(place + i), want[i]);
        }
    }

    /** A source must have a fault at a place. */
    void fault(String source, int kind, int place) {
        ShareEight x = new ShareEight(1, 1, 1, 1);
        due("assemble() of " + source, assemble(x, source), NONE);
        due("fault(0) of " + source, x.fault(0), kind);
        due("fault(1) of " + source, x.fault(1), place);
    }

    /** A source must have a fault where the mark ` stands, which is no byte of it. */
    void faultAt(String marked, int kind) {
        fault(marked.replace("`", ""), kind, marked.indexOf('`'));
    }

    /** A user gets a source's words and is READY at 0200. */
    void start(ShareEight x, int u, String source) {
        due("a fault in " + source, assemble(x, source) == NONE, false);
        due("mount(" + u + ")", x.mount(u), true);
        due("begin(" + u + ", 0200)", x.begin(u, 0200), true);
    }

    /** A house of one user, whose words are in the core: the next tick does its second instruction. */
    ShareEight alone(String source) {
        ShareEight x = new ShareEight(1, 1, 64, 1);
        start(x, 0, source);
        due("run(257) of " + source, x.run(257), 1);
        return x;
    }

    /** A user's numbers 0 to 14, as one text. */
    static String userText(ShareEight x, int u) {
        StringBuilder text = new StringBuilder("user").append(u).append(':');
        for (int what = 0; what <= 14; what++) {
            text.append(' ').append(x.user(u, what));
        }
        return text.toString();
    }

    /** What can be looked at of the house, but for its users and words, as one text. */
    static String houseText(ShareEight x, int slots) {
        StringBuilder text = new StringBuilder("house:");
        for (int what = 0; what <= 12; what++) {
            text.append(' ').append(x.look(what));
        }
        for (int s = 0; s < slots; s++) {
            text.append(" slot").append(s).append(':');
            for (int what = 0; what <= 2; what++) {
                text.append(' ').append(x.slot(s, what));
            }
        }
        return text.toString();
    }

    void user(ShareEight x, int u, int what, int want) {
        due("user(" + u + ", " + what + ") at " + x.look(0), x.user(u, what), want);
    }

    void look(ShareEight x, int what, int want) {
        due("look(" + what + ") at " + x.look(0), x.look(what), want);
    }

    void slotIs(ShareEight x, int s, int owner, int changed, int ran) {
        due("slot(" + s + ", 0) at " + x.look(0), x.slot(s, 0), owner);
        due("slot(" + s + ", 1) at " + x.look(0), x.slot(s, 1), changed);
        due("slot(" + s + ", 2) at " + x.look(0), x.slot(s, 2), ran);
    }
}
