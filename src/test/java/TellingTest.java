/** Promises 15 to 21: entry, named, block, at, fits, beginning, count. */
public final class TellingTest {
    private static final Due DUE = new Due("TellingTest");
    private static final int[] WILD = {Integer.MIN_VALUE, -1000000, -2, -1, 1000000, Integer.MAX_VALUE};

    public static void main(String[] args) {
        entries();
        names();
        blocks();
        units();
        fitting();
        beginnings();
        lostAtTheFront();
        counts();
        DUE.end();
    }

    private static MemberShelf aShelf() {
        MemberShelf shelf = new MemberShelf();
        shelf.add(Due.name("CA"), 10, 11);
        shelf.add(Due.name("CZ"), 20, 12);
        shelf.add(Due.name("AA"), 5, 13);
        shelf.alias(Due.name("CB"), Due.name("CA"));
        shelf.alias(Due.name("DA"), Due.name("CA"));
        shelf.alias(Due.name("BZ"), Due.name("CZ"));
        shelf.replace(Due.name("CA"), 15, 14);
        shelf.remove(Due.name("AA"));
        shelf.add(Due.name("ZZ"), 1, 15);
        return shelf;
    }

    private static void entries() {
        MemberShelf shelf = aShelf();
        String[] names = {"BZ", "CA", "CB", "CZ", "DA", "ZZ"};
        int[][] due = {
            {0, 0, 1, 10, 20, 12, 1, Due.name("CZ"), 0},
            {1, 0, 0, 35, 15, 14, 0, -5, 0},
            {2, 0, 1, 0, 10, 11, 2, Due.name("CA"), 1},
            {3, 0, 0, 10, 20, 12, 1, -5, 0},
            {4, 1, 1, 0, 10, 11, 2, Due.name("CA"), 1},
            {5, 1, 0, 50, 1, 15, 0, -5, 0}};
        for (int number = 0; number < names.length; number++) {
            int name = Due.name(names[number]);
            for (int what = 0; what <= 8; what++) {
                DUE.is("entry(" + names[number] + ", " + what + ")", shelf.entry(name, what), due[number][what]);
            }
            DUE.is("entry(.., 9)", shelf.entry(name, 9), -2);
            for (int wild : WILD) {
                DUE.is("entry(.., " + wild + ")", shelf.entry(name, wild), -2);
            }
        }
        for (int wild : WILD) {
            DUE.is("entry(" + wild + ", 0)", shelf.entry(wild, 0), -1);
            DUE.is("entry(" + wild + ", 9)", shelf.entry(wild, 9), -1);
        }
        DUE.is("entry(0, -1)", shelf.entry(0, -1), -1);
    }

    private static void names() {
        MemberShelf shelf = aShelf();
        String[] names = {"BZ", "CA", "CB", "CZ", "DA", "ZZ"};
        for (int rank = 0; rank < names.length; rank++) {
            DUE.is("named(" + rank + ")", shelf.named(rank), Due.name(names[rank]));
        }
        for (int rank = 6; rank < 30; rank++) {
            DUE.is("named(" + rank + ")", shelf.named(rank), -5);
        }
        for (int wild : WILD) {
            DUE.is("named(" + wild + ")", shelf.named(wild), wild < 0 ? -2 : -5);
        }
    }

    private static void blocks() {
        MemberShelf shelf = aShelf();
        shelf.makeAnew(3);
        int[][] due = {{4, Due.name("BZ"), Due.name("CZ")}, {2, Due.name("DA"), Due.name("ZZ")}, {0, -5, -5}};
        for (int block = 0; block < 3; block++) {
            for (int what = 0; what < 3; what++) {
                DUE.is("block(" + block + ", " + what + ")", shelf.block(block, what), due[block][what]);
            }
            for (int wild : WILD) {
                DUE.is("block(.., " + wild + ")", shelf.block(block, wild), -2);
            }
            DUE.is("block(.., 3)", shelf.block(block, 3), -2);
        }
        DUE.is("block(3, 0)", shelf.block(3, 0), -1);
        DUE.is("block(3, 3)", shelf.block(3, 3), -1);
        for (int wild : WILD) {
            DUE.is("block(" + wild + ", 0)", shelf.block(wild, 0), -1);
        }
        shelf.remove(Due.name("ZZ"));
        DUE.is("first of one", shelf.block(1, 1), Due.name("DA"));
        DUE.is("last of one", shelf.block(1, 2), Due.name("DA"));
        shelf.remove(Due.name("BZ"));
        DUE.is("first then", shelf.block(0, 1), Due.name("CA"));
        DUE.is("last then", shelf.block(0, 2), Due.name("DA"));
        DUE.is("none then", shelf.block(1, 0), 0);
        shelf.makeAnew(6);
        DUE.is("the sixth block", shelf.block(5, 0), 0);
        DUE.is("the seventh block", shelf.block(6, 0), -1);
    }

    private static void units() {
        MemberShelf shelf = aShelf();
        int[][] due = {{0, Due.name("CB")}, {9, Due.name("CB")}, {10, Due.name("BZ")}, {29, Due.name("BZ")}, {30, 1000},
            {34, 1000}, {35, Due.name("CA")}, {49, Due.name("CA")}, {50, Due.name("ZZ")}, {51, -5}, {99, -5},
            {100, -1}, {-1, -1}};
        for (int[] unit : due) {
            DUE.is("at(" + unit[0] + ")", shelf.at(unit[0]), unit[1]);
        }
        for (int wild : WILD) {
            DUE.is("at(" + wild + ")", shelf.at(wild), -1);
        }
        MemberShelf full = new MemberShelf();
        full.add(3, 40, 1);
        full.add(2, 40, 1);
        full.add(1, 20, 1);
        DUE.is("at(99) of a full room", full.at(99), 1);
        full.remove(1);
        DUE.is("at(99) then", full.at(99), 1000);
    }

    private static void fitting() {
        MemberShelf shelf = new MemberShelf();
        for (int length = 1; length <= 40; length++) {
            DUE.is("fits(" + length + ")", shelf.fits(length), 0);
        }
        DUE.is("fits(0)", shelf.fits(0), -2);
        DUE.is("fits(41)", shelf.fits(41), -2);
        for (int wild : WILD) {
            DUE.is("fits(" + wild + ")", shelf.fits(wild), -2);
        }
        shelf.add(1, 40, 1);
        shelf.add(2, 30, 1);
        DUE.is("fits(30)", shelf.fits(30), 0);
        DUE.is("fits(31)", shelf.fits(31), 2);
        shelf.alias(3, 2);
        shelf.replace(2, 5, 1);
        DUE.is("fits(25)", shelf.fits(25), 0);
        DUE.is("a text with an alias stays", shelf.fits(26), 2);
        shelf.alias(3, 2);
        DUE.is("the dead text could go", shelf.fits(26), 1);
        DUE.is("fits(40)", shelf.fits(40), 1);
        shelf.replace(2, 21, 1);
        shelf.remove(3);
        DUE.is("living 61", shelf.fits(39), 1);
        DUE.is("too much behind squeezing", shelf.fits(40), 2);
    }

    private static void beginnings() {
        MemberShelf shelf = aShelf();
        String[][] due = {{}, {"BZ"}, {"CA", "CB", "CZ"}, {"DA"}};
        for (int letter = 0; letter < 4; letter++) {
            for (int rank = 0; rank < 5; rank++) {
                DUE.is("beginning(" + letter + ", " + rank + ")", shelf.beginning(letter, rank),
                    rank < due[letter].length ? Due.name(due[letter][rank]) : -5);
            }
        }
        DUE.is("beginning(25, 0)", shelf.beginning(25, 0), 675);
        DUE.is("beginning(25, 1)", shelf.beginning(25, 1), -5);
        DUE.is("beginning(26, 0)", shelf.beginning(26, 0), -2);
        DUE.is("beginning(2, MAX)", shelf.beginning(2, Integer.MAX_VALUE), -5);
        for (int wild : WILD) {
            DUE.is("beginning(" + wild + ", 0)", shelf.beginning(wild, 0), -2);
            DUE.is("beginning(2, " + wild + ")", shelf.beginning(2, wild), wild < 0 ? -2 : -5);
        }
    }

    private static void lostAtTheFront() {
        MemberShelf shelf = new MemberShelf();
        shelf.add(5, 10, 1);
        shelf.alias(0, 5);
        shelf.alias(1, 5);
        DUE.is("none is lost", shelf.count(3), 0);
        shelf.remove(5);
        DUE.is("both are lost", shelf.count(3), 2);
        DUE.is("no member", shelf.count(1), 0);
        DUE.is("one text", shelf.count(10), 1);
        DUE.is("its units, once", shelf.count(7), 10);
    }

    private static void counts() {
        MemberShelf shelf = aShelf();
        shelf.type('A');
        shelf.type('B');
        int[] due = {6, 3, 3, 2, 2, 2, 51, 46, 5, 49, 4, 0, 0, 4, 2};
        for (int what = 0; what < due.length; what++) {
            DUE.is("count(" + what + ")", shelf.count(what), due[what]);
        }
        shelf.squeeze();
        shelf.remove(Due.name("CB"));
        shelf.remove(Due.name("CA"));
        shelf.makeAnew(4);
        int[] then = {4, 2, 2, 1, 4, 12, 31, 31, 0, 69, 3, 2, 20, 4, 2};
        for (int what = 0; what < then.length; what++) {
            DUE.is("then count(" + what + ")", shelf.count(what), then[what]);
        }
        shelf.add(0, 1, 1);
        DUE.is("members with one more", shelf.count(1), 3);
        DUE.is("aliases with one member more", shelf.count(2), 2);
        DUE.is("count(15)", shelf.count(15), -2);
        for (int wild : WILD) {
            DUE.is("count(" + wild + ")", shelf.count(wild), -2);
        }
    }
}
