import java.util.List;

/** Counts the answers that are not due, and names the sentence of the document for which each was asked. */
final class Due {
    /** More of one sentence are counted, but not printed. */
    private static final int MOST_PRINTED = 20;

    private final String test;
    private Document document = null;
    private String sentence = "";
    private int sentences = 0;
    private int asked = 0;
    private int wrong = 0;
    private int printed = 0;

    Due(String test) {
        this.test = test;
    }

    /** What is asked from here on is asked for these words, which stand at this place of the document. */
    void sentence(String place, String words) {
        if (document == null) {
            document = new Document();
        }
        sentence = "; " + place + " says: " + words;
        sentences++;
        printed = 0;
        holds("the document", document.quote(place, words));
    }

    void is(String call, long got, long due) {
        asked++;
        if (got != due) {
            tellWrong(call + " answered " + got + ", due is " + due);
        }
    }

    void holds(String what, boolean truth) {
        asked++;
        if (!truth) {
            tellWrong(what + " does not hold");
        }
    }

    private void tellWrong(String what) {
        wrong++;
        printed++;
        if (printed <= MOST_PRINTED) {
            System.out.println(test + ": " + what + sentence);
        }
    }

    /** Makes the calls on a new object; those that are refused or only tell must change nothing. */
    void run(String... lines) {
        List<Call> calls = Call.all(lines);
        answers(calls);
        for (int place = 0; place < calls.size(); place++) {
            Call call = calls.get(place);
            if (call.isTelling() || call.hasDue() && call.due() < 0) {
                boolean isSame = Run.whole(calls.subList(0, place)).equals(Run.whole(calls.subList(0, place + 1)));
                holds(call + " changes nothing, which", isSame);
            }
        }
    }

    /** Makes the calls on a new object and looks at their answers alone, so that there may be 512 of them. */
    void answers(List<Call> calls) {
        Run run = new Run();
        for (int place = 0; place < calls.size(); place++) {
            Call call = calls.get(place);
            int got = run.make(call);
            if (call.hasDue()) {
                is("call " + place + ", " + call + ",", got, call.due());
            }
        }
    }

    /** A text of additions that has a fault, on the empty shelf. */
    void fault(String text, int fault) {
        run("pad(" + text + ")", "addAll() = " + (-100 - fault));
    }

    /** Asks whether every word of the document's terms and promises was quoted. */
    void everySentence() {
        sentence = "";
        printed = 0;
        for (String words : document.unquoted()) {
            holds("that a test quotes " + words, false);
        }
    }

    static void type(MemberShelf shelf, String text) {
        shelf.clearPad();
        for (int place = 0; place < text.length(); place++) {
            shelf.type(text.charAt(place));
        }
    }

    static int name(String letters) {
        return 26 * (letters.charAt(0) - 'A') + letters.charAt(1) - 'A';
    }

    void end() {
        String told = sentences == 0 ? "" : sentences + " sentences, ";
        System.out.println(test + ": " + told + asked + " answers, " + wrong + " of them not as due");
        if (wrong != 0) {
            System.exit(1);
        }
    }
}
