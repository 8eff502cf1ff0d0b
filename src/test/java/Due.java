/** Counts the answers that are not due. */
final class Due {
    private final String test;
    private int asked = 0;
    private int wrong = 0;

    Due(String test) {
        this.test = test;
    }

    void is(String call, long got, long due) {
        asked++;
        if (got != due) {
            wrong++;
            System.out.println(test + ": " + call + " answered " + got + ", due is " + due);
        }
    }

    void holds(String what, boolean truth) {
        is(what, truth ? 1 : 0, 1);
    }

    /** Asks all that an object tells, but for the history and the pad, so that two states can be compared. */
    static String told(MemberShelf shelf) {
        StringBuilder told = new StringBuilder();
        for (int what = 0; what <= 12; what++) {
            told.append(shelf.count(what)).append(' ');
        }
        for (int rank = 0; rank < shelf.count(0); rank++) {
            int name = shelf.named(rank);
            told.append("| ").append(name);
            for (int what = 0; what <= 8; what++) {
                told.append(' ').append(shelf.entry(name, what));
            }
        }
        told.append("| ");
        for (int unit = 0; unit < 100; unit++) {
            told.append(shelf.at(unit)).append(' ');
        }
        return told.toString();
    }

    /** Makes a call that changes nothing. */
    void changesNothing(MemberShelf shelf, String call, java.util.function.IntSupplier act, long due) {
        String before = told(shelf);
        int states = shelf.count(13);
        int characters = shelf.count(14);
        is(call, act.getAsInt(), due);
        holds(call + " changes no state", told(shelf).equals(before));
        is(call + " then count(13)", shelf.count(13), states);
        is(call + " then count(14)", shelf.count(14), characters);
    }

    static void type(MemberShelf shelf, String text) {
        shelf.clearPad();
        for (int place = 0; place < text.length(); place++) {
            shelf.type(text.charAt(place));
        }
    }

    static int name(String letters) {
        return 26 * (letters.charAt(0) - 'A') + letters.charAt(1) - 'A';
    }

    void end() {
        System.out.println(test + ": " + asked + " answers, " + wrong + " of them not as due");
        if (wrong != 0) {
            System.exit(1);
        }
    }
}
