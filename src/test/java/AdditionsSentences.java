/** The sentences of the terms on texts of additions, and of promises 7, 10 and 11: addAll, type, clearPad. */
final class AdditionsSentences {
    private static final String ELEVEN = "AA=1;AB=1;AC=1;AD=1;AE=1;AF=1;AG=1;AH=1;AI=1;AJ=1;AK=1";

    private final Due due;

    AdditionsSentences(Due due) {
        this.due = due;
    }

    void all() {
        pad();
        oneOrMore();
        letters();
        lengths();
        marks();
        aliases();
        zeros();
        greatNumbers();
        faults();
        charactersBeyond();
        addAll();
        addAllTells();
        addAllErrors();
        type();
        clearPad();
    }

    private void pad() {
        due.sentence("TEXTS OF ADDITIONS", "There is a pad of at most 60 characters");
        due.run("pad(" + ELEVEN + ";AL=1)", "count(14) = 59", "type(2) = 60", "type({1|A|;}) = FULL", "count(14) = 60",
            "addAll() = DIRECTORY_FULL", "makeAnew(3) = 2", "addAll() = 12", "entry(AL, 4) = 12");

        due.sentence("TEXTS OF ADDITIONS", ", empty at first.");
        due.run("count(14) = 0", "addAll() = -100", "clearPad() = 0");
        due.run("type(A) = 1", "addAll() = -101");
    }

    private void oneOrMore() {
        due.sentence("TEXTS OF ADDITIONS", "A text of additions is one or more additions with \";\" between two");
        due.fault("", 0);
        due.run("pad(AB=5)", "addAll() = 1", "count(0) = 1");
        due.run("pad(AB=5;AC>AB)", "addAll() = 2", "count(0) = 2");
        due.run("makeAnew(3) = 2", "pad(" + ELEVEN + ";AL=12)", "addAll() = 12", "count(0) = 12", "entry(AL, 4) = 12");
        due.fault(";", 0);
        due.fault(";AB=5", 0);
        due.fault("AB=5;", 5);
        due.fault("AB=5;;AC=5", 5);
        due.fault("AB=5AC=5", 4);
        due.fault("AB=5,6AC=5", 6);
        due.fault("AB>CDEF>GH", 5);
        due.fault("AB>CD>EF", 5);
        due.fault("AB=5:AC=5", 4);
        due.fault("AB=5,AC=5", 5);
        due.fault("AB=5 ;AC=5", 4);
        due.fault(ELEVEN + ";AL=1;", 60);
    }

    private void letters() {
        due.sentence("TEXTS OF ADDITIONS", ": two letters from A to Z");
        due.run("pad(AZ=1;ZA=2)", "addAll() = 2", "entry(AZ, 4) = 1", "entry(ZA, 4) = 2");
        due.fault("@B=5", 0);
        due.fault("[B=5", 0);
        due.fault("aB=5", 0);
        due.fault("zB=5", 0);
        due.fault("A@=5", 1);
        due.fault("A[=5", 1);
        due.fault("Aa=5", 1);
        due.fault("Az=5", 1);
        due.fault("1B=5", 0);
        due.fault(" AB=5", 0);
        due.fault("A=5", 1);
        due.fault("ABC=5", 2);
        due.fault("=5", 0);
        due.fault("AB=5;B=5", 6);
        due.fault("AB=5;aB=5", 5);
    }

    private void lengths() {
        due.sentence("TEXTS OF ADDITIONS", ", then \"=\" and a length (1 to 40; its first digit is not 0)");
        due.run("pad(AA=1;AB=9;AC=10;AD=19;AE=40)", "addAll() = 5", "entry(AA, 4) = 1", "entry(AB, 4) = 9",
            "entry(AC, 4) = 10", "entry(AD, 4) = 19", "entry(AE, 4) = 40");
        due.run("pad(AA=39;AB=29;AC=30)", "addAll() = 3", "entry(AA, 4) = 39", "entry(AB, 4) = 29",
            "entry(AC, 4) = 30");
        due.fault("AB=0", 3);
        due.fault("AB=05", 3);
        due.fault("AB=41", 4);
        due.fault("AB=49", 4);
        due.fault("AB=50", 4);
        due.fault("AB=99", 4);
        due.fault("AB=", 3);
        due.fault("AB=,5", 3);
        due.fault("AB=A", 3);
        due.fault("AB=/", 3);
        due.fault("AB=:", 3);
        due.fault("AB=-1", 3);
        due.fault("AB=+1", 3);
        due.fault("AB= 1", 3);
        due.fault("AB==5", 3);
        due.fault("AB<5", 2);
        due.fault("AB?5", 2);
        due.fault("AB5", 2);
        due.fault("AB=5/", 4);
        due.fault("AB=5:", 4);
    }

    private void marks() {
        due.sentence("TEXTS OF ADDITIONS", ", perhaps \",\" and a mark (0 to 9999; 0 without it)");
        due.run("pad(AA=1,0;AB=2,1;AC=3,9;AD=4,10;AE=5,999;AF=6,1000;AG=7,9999)", "addAll() = 7", "entry(AA, 5) = 0",
            "entry(AB, 5) = 1", "entry(AC, 5) = 9", "entry(AD, 5) = 10", "entry(AE, 5) = 999", "entry(AF, 5) = 1000",
            "entry(AG, 5) = 9999", "entry(AG, 4) = 7");
        due.run("pad(AA=1,7;AB=2;AC=3,8)", "addAll() = 3", "entry(AA, 5) = 7", "entry(AB, 5) = 0", "entry(AC, 5) = 8");
        due.fault("AB=5,", 5);
        due.fault("AB=5,;", 5);
        due.fault("AB=5,,", 5);
        due.fault("AB=5,A", 5);
        due.fault("AB=5,/", 5);
        due.fault("AB=5,:", 5);
        due.fault("AB=5,-1", 5);
        due.fault("AB=5,6,", 6);
        due.fault("AB=5,6/", 6);
        due.fault("AB=5,6:", 6);
        due.fault("AB=5.6", 4);
        due.fault("AB,5", 2);
    }

    private void aliases() {
        due.sentence("TEXTS OF ADDITIONS",
            "; or two letters, \">\" and two letters (an alias, given to the member with the latter name).");
        due.run("add(ZA, 7, 5) = 0", "add(BA, 8, 6) = 7", "pad(AZ>ZA)", "addAll() = 1", "entry(AZ, 2) = 1",
            "entry(AZ, 7) = ZA", "entry(AZ, 3) = 0", "entry(AZ, 4) = 7", "entry(AZ, 5) = 5", "entry(ZA, 2) = 0");
        due.fault("AB>", 3);
        due.fault("AB>C", 4);
        due.fault("AB>5", 3);
        due.fault("AB>@D", 3);
        due.fault("AB>[D", 3);
        due.fault("AB>cD", 3);
        due.fault("AB>C@", 4);
        due.fault("AB>C[", 4);
        due.fault("AB>Cd", 4);
        due.fault("AB>C5", 4);
        due.fault("AB>CDE", 5);
        due.fault("AB>CD=5", 5);
        due.fault("AB>CD,5", 5);
        due.fault("AB>CD5", 5);
        due.fault("AB=CD", 3);
        due.fault("AB>CD;", 6);
        due.fault("A>CD", 1);
        due.fault("ABC>DE", 2);
    }

    private void zeros() {
        due.sentence("TEXTS OF ADDITIONS", "Numbers have no zero in front, unless it is the single digit 0");
        due.run("pad(AB=10,0;AC=20,100)", "addAll() = 2", "entry(AB, 5) = 0", "entry(AC, 5) = 100");
        due.fault("AB=01", 3);
        due.fault("AB=00", 3);
        due.fault("AB=5,00", 6);
        due.fault("AB=5,01", 6);
        due.fault("AB=5,09", 6);
        due.fault("AB=5,0000", 6);
    }

    private void greatNumbers() {
        due.sentence("TEXTS OF ADDITIONS",
            "; a digit by which a number would be greater than told is not allowed.");
        due.run("pad(AB=40,9999)", "addAll() = 1", "entry(AB, 4) = 40", "entry(AB, 5) = 9999");
        due.fault("AB=41", 4);
        due.fault("AB=400", 5);
        due.fault("AB=100", 5);
        due.fault("AB=110", 5);
        due.fault("AB=4294967297", 4);
        due.fault("AB=5,10000", 9);
        due.fault("AB=5,99990", 9);
        due.fault("AB=5,99999", 9);
        due.fault("AB=5,4294967296", 9);
        due.fault("AB=40,10000", 10);
        due.fault("AB=5;AC=41", 9);
    }

    private void faults() {
        due.sentence("TEXTS OF ADDITIONS",
            "The fault of the pad is the index, from 0, of the first character that is not allowed at its place");
        due.fault("?", 0);
        due.fault("A?", 1);
        due.fault("AB?", 2);
        due.fault("AB=?", 3);
        due.fault("AB=5?", 4);
        due.fault("AB=12?", 5);
        due.fault("AB=40?", 5);
        due.fault("AB=5,?", 5);
        due.fault("AB=5,0?", 6);
        due.fault("AB=5,1234?", 9);
        due.fault("AB>?", 3);
        due.fault("AB>C?", 4);
        due.fault("AB>CD?", 5);
        due.fault("AB=5;?", 5);
        due.fault("AB=5;AC?", 7);
        due.fault("AB=5;A?=6;??", 6);
        due.fault("AB=5?;AC=41", 4);
        due.fault(ELEVEN + ";AL=1A", 59);

        due.sentence("TEXTS OF ADDITIONS", ", or the length of the pad if it ends too early (the empty pad does).");
        due.fault("", 0);
        due.fault("A", 1);
        due.fault("AB", 2);
        due.fault("AB=", 3);
        due.fault("AB>", 3);
        due.fault("AB>C", 4);
        due.fault("AB=5,", 5);
        due.fault("AB=5;", 5);
        due.fault("AB=5,0;", 7);
        due.fault("AB=40;", 6);
        due.fault("AB>CD;", 6);
        due.fault("AB=5;AC=6;A", 11);
        due.fault(ELEVEN + ";AL=", 58);
        due.fault(ELEVEN + ",2;AL=", 60);
    }

    /** Puts every character there is at each place of a good text, so that none is taken for another. */
    private void charactersBeyond() {
        due.sentence("TEXTS OF ADDITIONS", "the first character that is not allowed at its place");
        String good = "AB=12,3;CD>AB";
        String capitals = "ABCDEFGHIJKLMNOPQRSTUVWXYZ";
        String digits = "0123456789";
        String[] allowed = {capitals, capitals, "=>", "123456789", digits + ",;", ",;", digits, digits + ";", capitals,
            capitals, "=>", capitals, capitals};
        for (int place = 0; place < good.length(); place++) {
            for (int character = 0; character <= 0xffff; character++) {
                MemberShelf shelf = new MemberShelf();
                Due.type(shelf, good.substring(0, place) + (char) character + good.substring(place + 1));
                boolean isAllowed = allowed[place].indexOf(character) >= 0;
                due.holds("character " + character + " at " + place, isAllowed == (shelf.addAll() != -100 - place));
            }
        }
    }

    private void addAll() {
        due.sentence("Promise 7", "`int addAll()`: Makes the additions of the pad");
        due.run("pad(ZZ=40,9999;AA=5;BC>AA)", "addAll() = 3", "entry(ZZ, 3) = 0", "entry(ZZ, 4) = 40",
            "entry(ZZ, 5) = 9999", "entry(ZZ, 7) = NONE", "entry(AA, 3) = 40", "entry(AA, 4) = 5", "entry(AA, 5) = 0",
            "entry(BC, 7) = AA", "entry(BC, 3) = 40", "count(0) = 3", "count(6) = 45");

        due.sentence("Promise 7", ", which stays");
        due.run("pad(AA=5;AB>AA)", "addAll() = 2", "count(14) = 10", "addAll() = TAKEN", "remove(AA) = 1",
            "addAll() = 2", "entry(AA, 3) = 5", "type(;) = 11", "addAll() = -111", "count(14) = 11",
            "clearPad() = 11");

        due.sentence("Promise 7", ", one after the other");
        due.run("pad(AB=5;AA=6;AC>AA;AD=7)", "addAll() = 4", "entry(AB, 3) = 0", "entry(AA, 3) = 5",
            "entry(AC, 3) = 5", "entry(AD, 3) = 11");
        due.run("add(AA, 2, 0) = 0", "add(AB, 3, 0) = 2", "pad(AC>AA;AC>AB)", "addAll() = 2", "entry(AC, 7) = AB",
            "entry(AC, 3) = 2");

        due.sentence("Promise 7", "; all of them, or none.");
        due.run("add(AA, 10, 0) = 0", "alias(AB, AA) = 0", "pad(AC=3;AB>AC;AD=4,44;AE>AF)", "addAll() = UNKNOWN",
            "count(0) = 2", "count(6) = 10", "entry(AB, 7) = AA", "count(13) = 2", "type(F) = 25", "addAll() = -124");
        due.run("pad(AA=40;AB=40;AC=20;AD=1)", "addAll() = FULL", "count(0) = 0", "count(6) = 0", "count(13) = 0");
        due.run("pad(AA=40;AB=40;AC=20;AD=4?)", "addAll() = -122", "count(0) = 0");

        due.sentence("Promise 7", "This is one act.");
        due.run("pad(AA=1;AB=2;AC>AB;AD=3;AE=4)", "addAll() = 5", "count(13) = 1", "undo() = 0", "count(0) = 0",
            "count(6) = 0", "undo() = NONE");
        due.run("add(AA, 1, 0) = 0", "alias(AB, AA) = 0", "pad(AB>AA)", "addAll() = 1", "count(13) = 3",
            "pad(AB>AA;AB>AA)", "addAll() = 2", "count(13) = 4");
    }

    private void addAllTells() {
        due.sentence("Promise 7", "Returns how many the pad has");
        due.run("pad(AA=1)", "addAll() = 1");
        due.run("makeAnew(3) = 2", "pad(" + ELEVEN + ")", "addAll() = 11");
        due.run("makeAnew(3) = 2", "pad(" + ELEVEN + ";AL=1)", "addAll() = 12");
        due.run("pad(AA=10;AB>AA;AC>AA)", "addAll() = 3");
        due.run("add(AA, 1, 0) = 0", "alias(AB, AA) = 0", "pad(AB>AA;AC=1;AB>AA)", "addAll() = 3", "count(0) = 3");

        due.sentence("Promise 7", "; -100 minus the fault of the pad if it has one (which is an error)");
        due.run("addAll() = -100", "count(13) = 0", "pad(AA=1)", "addAll() = 1", "type(A) = 5", "addAll() = -104",
            "count(13) = 1", "undo() = 0", "addAll() = -104", "count(0) = 0");
        // The fault is looked for ahead of all that could be wrong with an addition.
        due.run("add(AA, 40, 0) = 0", "pad(AA=1;AB>ZZ;AC=40;AD=40;AE)", "addAll() = -125");
        due.fault(ELEVEN + ";AL=1;", 60);

        due.sentence("Promise 7", " (NONE is none).");
        due.run("add(AA, 1, 0) = 0", "alias(AB, AA) = 0", "pad(AB>AA)", "addAll() = 1", "pad(AB>AA;AA=1)",
            "addAll() = TAKEN", "pad(AB>AA;AB>AA;AC=2)", "addAll() = 3", "entry(AC, 3) = 1");
    }

    private void addAllErrors() {
        due.sentence("Promise 7", "; otherwise the error that add() or alias() returns for the first addition that has "
            + "one when its turn comes");
        due.run("add(AA, 40, 0) = 0", "add(AB, 39, 0) = 40", "pad(AC=22)", "addAll() = FULL", "pad(AC=21;AD=1)",
            "addAll() = FULL", "pad(AA=1)", "addAll() = TAKEN", "pad(AC>ZZ)", "addAll() = UNKNOWN", "pad(AA>AB)",
            "addAll() = TAKEN", "pad(AC=21)", "addAll() = 1");
        due.run("makeAnew(1) = 2", "pad(AA=1;AB=1;AC=1;AD=1;AE=1)", "addAll() = DIRECTORY_FULL",
            "pad(AA=1;AB=1;AC=1;AD=1;AE>AA)", "addAll() = DIRECTORY_FULL", "pad(AA=1;AB=1;AC=1;AD>AA;AD>AB)",
            "addAll() = 5");
        // When its turn comes: what the additions ahead of it have made is there, what comes behind it is not.
        due.run("pad(AA=1;AA=2)", "addAll() = TAKEN", "pad(AA=1;AB>AA)", "addAll() = 2", "pad(AC>AD;AD=1)",
            "addAll() = UNKNOWN", "pad(AC>AA;AD>AC)", "addAll() = UNKNOWN", "pad(AC>AA;AC=1)", "addAll() = TAKEN",
            "pad(AC=1;AC>AA)", "addAll() = TAKEN");
        // The first one: later ones would have another error.
        due.run("pad(AA=1;AB>ZZ;AA=1)", "addAll() = UNKNOWN", "pad(AA=1;AA=1;AB>ZZ)", "addAll() = TAKEN",
            "pad(AA=40;AB=40;AC=21;AA=1)", "addAll() = FULL", "pad(AA>AA)", "addAll() = UNKNOWN");
    }

    private void type() {
        due.sentence("Promise 10", "`int type(char character)`: Types a character behind the pad.");
        due.run("type(A) = 1", "type(Z) = 2", "type(=) = 3", "type(7) = 4", "addAll() = 1", "entry(AZ, 4) = 7",
            "type(,) = 5", "type(3) = 6", "remove(AZ) = 0", "addAll() = 1", "entry(AZ, 5) = 3", "count(13) = 3");

        due.sentence("Promise 10", "- `character`: any character");
        due.run("type(#0) = 1", "type(#65535) = 2", "type(#321) = 3", "type(#55296) = 4", "type( ) = 5",
            "type(#10) = 6", "addAll() = -100", "clearPad() = 6");

        due.sentence("Promise 10", "Returns the length of the pad then");
        due.run("type(A) = 1", "type(B) = 2", "clearPad() = 2", "type(C) = 1", "count(14) = 1");

        due.sentence("Promise 10", "; FULL if it has 60 characters.");
        due.run("pad(" + ELEVEN + ";AL=1)", "type(2) = 60", "type({1|#0|;}) = FULL", "count(14) = 60",
            "clearPad() = 60", "type(A) = 1");
    }

    private void clearPad() {
        due.sentence("Promise 11", "`int clearPad()`: Empties the pad.");
        due.run("pad(AA=1)", "addAll() = 1", "clearPad() = 4", "count(14) = 0", "addAll() = -100", "type(B) = 1",
            "addAll() = -101", "count(13) = 1");

        due.sentence("Promise 11", "Returns the length that it had.");
        due.run("clearPad() = 0", "type(A) = 1", "clearPad() = 1", "clearPad() = 0", "pad(" + ELEVEN + ";AL=1)",
            "type(A) = 60", "clearPad() = 60", "clearPad() = 0");
    }
}
