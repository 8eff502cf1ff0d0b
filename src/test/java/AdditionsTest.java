/** Promises 7, 10 and 11: addAll with the texts of additions, type, clearPad. */
public final class AdditionsTest {
    private static final Due DUE = new Due("AdditionsTest");

    public static void main(String[] args) {
        typing();
        additions();
        faults();
        numbers();
        errorsOfAdditions();
        allOrNone();
        noneIsNoError();
        theMostOfThem();
        everyCharacterEverywhere();
        DUE.end();
    }

    private static void typing() {
        MemberShelf shelf = new MemberShelf();
        DUE.is("clearPad of the empty pad", shelf.clearPad(), 0);
        for (int length = 1; length <= 60; length++) {
            DUE.is("type", shelf.type((char) (length * 1111)), length);
        }
        DUE.is("count(14)", shelf.count(14), 60);
        DUE.changesNothing(shelf, "type behind the last one", () -> shelf.type('A'), -3);
        DUE.is("typing is no act", shelf.count(13), 0);
        DUE.is("clearPad", shelf.clearPad(), 60);
        DUE.is("clearing is no act", shelf.count(13), 0);
        DUE.is("count(14) then", shelf.count(14), 0);
        DUE.is("type '\\uffff'", shelf.type('\uffff'), 1);
        DUE.is("its fault", shelf.addAll(), -100);
    }

    private static void additions() {
        MemberShelf shelf = new MemberShelf();
        Due.type(shelf, "ZZ=40,9999;AA=5;BC>AA");
        DUE.is("addAll", shelf.addAll(), 3);
        DUE.is("the pad stays", shelf.count(14), 21);
        DUE.is("one act", shelf.count(13), 1);
        int[][] due = {{0, 0, 0, 40, 5, 0, 1, -5, 0}, {1, 0, 1, 40, 5, 0, 1, 0, 0}, {2, 0, 0, 0, 40, 9999, 0, -5, 0}};
        int[] names = {0, 28, 675};
        for (int number = 0; number < 3; number++) {
            for (int what = 0; what <= 8; what++) {
                DUE.is("entry(" + names[number] + ", " + what + ")", shelf.entry(names[number], what),
                    due[number][what]);
            }
        }
        DUE.is("undo", shelf.undo(), 0);
        DUE.is("nothing is left", shelf.count(0), 0);
        DUE.is("the pad is left", shelf.count(14), 21);
        DUE.is("addAll again", shelf.addAll(), 3);
        DUE.is("and again", shelf.addAll(), -7);
    }

    private static void fault(String text, int due) {
        MemberShelf shelf = new MemberShelf();
        Due.type(shelf, text);
        DUE.changesNothing(shelf, "addAll of \"" + text + "\"", shelf::addAll, due);
    }

    private static void faults() {
        fault("", -100);
        fault("A", -101);
        fault("AB", -102);
        fault("AB=", -103);
        fault("AB>", -103);
        fault("AB>C", -104);
        fault("AB=5,", -105);
        fault("AB=5;", -105);
        fault("AB=5,0;", -107);
        fault("AB>CD;", -106);
        fault(" AB=5", -100);
        fault("aB=5", -100);
        fault("Ab=5", -101);
        fault("A=5", -101);
        fault("ABC=5", -102);
        fault("AB =5", -102);
        fault("AB<5", -102);
        fault("AB=A", -103);
        fault("AB==5", -103);
        fault("AB>5", -103);
        fault("AB>c", -103);
        fault("AB>C5", -104);
        fault("AB>CDE", -105);
        fault("AB>CD,5", -105);
        fault("AB>CD>EF", -105);
        fault("AB=5A", -104);
        fault("AB=5 ", -104);
        fault("AB=5,A", -105);
        fault("AB=5,;", -105);
        fault("AB=5,,", -105);
        fault("AB=5,1,", -106);
        fault("AB=5;;", -105);
        fault(";", -100);
        fault("AB=5;AC=6;A", -111);
        fault("AB=5;AC=6;A@", -111);
        fault("@B=5", -100);
        fault("[B=5", -100);
    }

    private static void numbers() {
        fault("AB=0", -103);
        fault("AB=05", -103);
        fault("AB=-1", -103);
        fault("AB=41", -104);
        fault("AB=50", -104);
        fault("AB=99", -104);
        fault("AB=400", -105);
        fault("AB=100", -105);
        fault("AB=5,00", -106);
        fault("AB=5,01", -106);
        fault("AB=5,10000", -109);
        fault("AB=5,99990", -109);
        fault("AB=5,-1", -105);
        fault("AB=5/", -104);
        fault("AB=5:", -104);
        fault("AB=5,9:", -106);
        int[] lengths = {1, 9, 10, 11, 39, 40};
        for (int length : lengths) {
            MemberShelf shelf = new MemberShelf();
            Due.type(shelf, "AB=" + length);
            DUE.is("addAll with " + length, shelf.addAll(), 1);
            DUE.is("the length", shelf.entry(1, 4), length);
            DUE.is("the mark", shelf.entry(1, 5), 0);
        }
        int[] marks = {0, 1, 9, 10, 99, 100, 999, 1000, 9999};
        for (int mark : marks) {
            MemberShelf shelf = new MemberShelf();
            Due.type(shelf, "XY=12," + mark);
            DUE.is("addAll with " + mark, shelf.addAll(), 1);
            DUE.is("the length", shelf.entry(23 * 26 + 24, 4), 12);
            DUE.is("the mark", shelf.entry(23 * 26 + 24, 5), mark);
        }
    }

    private static void errorsOfAdditions() {
        MemberShelf shelf = new MemberShelf();
        shelf.makeAnew(1);
        shelf.add(0, 40, 0);
        shelf.add(1, 40, 0);
        String[] texts = {"AA=1", "AC=1;AC=1", "AC=21", "AC=20;AD=1", "AC>ZZ", "AC>AA;AD>AC", "AA>AB", "AA>AA",
            "AC>AA;AD>AA;AE>AA", "AC=1;AD>AC;AE=40", "AC=1;AD>AC;AA=40", "AC=1;AD=1;AC>AE;AE=1", "AC>AA;AC=1"};
        int[] due = {-7, -7, -3, -3, -1, -1, -7, -7, -6, -6, -7, -1, -7};
        for (int number = 0; number < texts.length; number++) {
            Due.type(shelf, texts[number]);
            DUE.changesNothing(shelf, "addAll of " + texts[number], shelf::addAll, due[number]);
        }
        Due.type(shelf, "AA=1;AC");
        DUE.changesNothing(shelf, "a fault is ahead of an error", shelf::addAll, -107);
        Due.type(shelf, "AC=20;AD>AC");
        DUE.is("the last room and the last entry", shelf.addAll(), 2);
    }

    private static void allOrNone() {
        MemberShelf shelf = new MemberShelf();
        shelf.add(0, 10, 0);
        shelf.alias(1, 0);
        shelf.replace(0, 20, 0);
        shelf.undo();
        Due.type(shelf, "AC=3;AB>AC;AD=4,44;AE>AF");
        DUE.changesNothing(shelf, "the last one has an error", shelf::addAll, -1);
        DUE.is("the alias stays with its member", shelf.entry(1, 7), 0);
        Due.type(shelf, "AC=3;AB>AC;AD=4,44;AE>AD");
        DUE.is("none has an error", shelf.addAll(), 4);
        DUE.is("the alias has another member", shelf.entry(1, 7), 2);
        DUE.is("undo of all", shelf.undo(), 2);
        DUE.is("as it was", shelf.entry(1, 7), 0);
        DUE.is("as many as before", shelf.count(0), 2);
    }

    private static void noneIsNoError() {
        MemberShelf shelf = new MemberShelf();
        shelf.add(0, 10, 0);
        shelf.alias(1, 0);
        Due.type(shelf, "AB>AA;AC=1;AB>AA");
        DUE.is("NONE counts with the others", shelf.addAll(), 3);
        DUE.is("one entry more", shelf.count(0), 3);
        Due.type(shelf, "AB>AA");
        DUE.is("NONE alone", shelf.addAll(), 1);
        DUE.is("is an act", shelf.count(13), 4);
    }

    private static void theMostOfThem() {
        MemberShelf shelf = new MemberShelf();
        shelf.makeAnew(6);
        String twelve = "AA=1;AB=1;AC=1;AD=1;AE=1;AF=1;AG=1;AH=1;AI=1;AJ=1;AK=1;AL=1";
        Due.type(shelf, twelve + ";");
        DUE.is("60 characters", shelf.count(14), 60);
        DUE.changesNothing(shelf, "too short behind the twelfth", shelf::addAll, -160);
        Due.type(shelf, twelve + "2");
        DUE.is("twelve additions", shelf.addAll(), 12);
        DUE.is("the last one's length", shelf.entry(11, 4), 12);
        DUE.is("the entries", shelf.count(0), 12);
        shelf.undo();
        Due.type(shelf, twelve + "A");
        DUE.changesNothing(shelf, "a fault at the last character", shelf::addAll, -159);
    }

    /** Puts each character at each place of a good text. */
    private static void everyCharacterEverywhere() {
        String good = "AB=12,3;CD>AB";
        String capitals = "ABCDEFGHIJKLMNOPQRSTUVWXYZ";
        String digits = "0123456789";
        String[] allowed = {capitals, capitals, "=>", "123456789", digits + ",;", ",;", digits, digits + ";", capitals,
            capitals, "=>", capitals, capitals};
        for (int place = 0; place < good.length(); place++) {
            for (int character = 0; character < 300; character++) {
                MemberShelf shelf = new MemberShelf();
                Due.type(shelf, good.substring(0, place) + (char) character + good.substring(place + 1));
                boolean isFault = shelf.addAll() == -100 - place;
                DUE.holds("character " + character + " at " + place, isFault == (allowed[place].indexOf(character) < 0));
            }
        }
    }
}
