/** Promises 8 and 9: squeeze and makeAnew. */
public final class RoomTest {
    private static final Due DUE = new Due("RoomTest");

    public static void main(String[] args) {
        squeezing();
        squeezingOfNothing();
        squeezingKeepsTheOrderOfTheRoom();
        squeezingOfAll();
        makingAnew();
        makingAnewSqueezes();
        makingAnewErrors();
        DUE.end();
    }

    private static void squeezing() {
        MemberShelf shelf = new MemberShelf();
        shelf.add(1, 10, 1);
        shelf.add(2, 11, 2);
        shelf.add(3, 12, 3);
        shelf.alias(4, 2);
        shelf.remove(1);
        shelf.replace(2, 13, 4);
        DUE.is("squeeze", shelf.squeeze(), 10);
        DUE.is("the alias's text", shelf.entry(4, 3), 0);
        DUE.is("its length", shelf.entry(4, 4), 11);
        DUE.is("its mark", shelf.entry(4, 5), 2);
        DUE.is("it is lost", shelf.entry(4, 8), 1);
        DUE.is("the next text", shelf.entry(3, 3), 11);
        DUE.is("the last text", shelf.entry(2, 3), 23);
        DUE.is("the end", shelf.count(6), 36);
        DUE.is("dead units", shelf.count(8), 0);
        DUE.is("squeezings", shelf.count(11), 1);
        DUE.is("given back", shelf.count(12), 10);
        DUE.is("the next text is behind it", shelf.add(9, 1, 1), 36);
        shelf.remove(4);
        DUE.is("squeeze again", shelf.squeeze(), 11);
        DUE.is("squeezings", shelf.count(11), 2);
        DUE.is("given back in all", shelf.count(12), 21);
        shelf.undo();
        DUE.is("squeezings are undone", shelf.count(11), 1);
        DUE.is("what they gave back, too", shelf.count(12), 10);
        DUE.is("and the dead text", shelf.at(0), 1000);
    }

    private static void squeezingOfNothing() {
        MemberShelf shelf = new MemberShelf();
        DUE.changesNothing(shelf, "squeeze of the empty shelf", shelf::squeeze, -5);
        shelf.add(1, 10, 1);
        DUE.changesNothing(shelf, "squeeze without dead texts", shelf::squeeze, -5);
        shelf.alias(2, 1);
        shelf.replace(1, 10, 1);
        DUE.changesNothing(shelf, "a lost alias's text is not dead", shelf::squeeze, -5);
    }

    private static void squeezingKeepsTheOrderOfTheRoom() {
        MemberShelf shelf = new MemberShelf();
        int[] names = {500, 7, 300, 2, 600, 100};
        for (int number = 0; number < names.length; number++) {
            shelf.add(names[number], number + 3, number);
        }
        shelf.alias(650, 300);
        shelf.alias(1, 600);
        shelf.remove(7);
        shelf.remove(2);
        DUE.is("squeeze", shelf.squeeze(), 10);
        int[][] due = {{500, 0}, {300, 3}, {650, 3}, {600, 8}, {1, 8}, {100, 15}};
        for (int[] entry : due) {
            DUE.is("start of " + entry[0], shelf.entry(entry[0], 3), entry[1]);
        }
        DUE.is("end", shelf.count(6), 23);
    }

    private static void squeezingOfAll() {
        MemberShelf shelf = new MemberShelf();
        shelf.add(1, 40, 1);
        shelf.replace(1, 40, 1);
        shelf.replace(1, 20, 1);
        DUE.is("squeeze of 80", shelf.squeeze(), 80);
        DUE.is("what stays", shelf.entry(1, 3), 0);
        shelf.remove(1);
        DUE.is("squeeze of all", shelf.squeeze(), 20);
        DUE.is("end", shelf.count(6), 0);
        DUE.is("given back", shelf.count(12), 100);
    }

    private static void makingAnew() {
        MemberShelf shelf = new MemberShelf();
        DUE.is("makeAnew(6)", shelf.makeAnew(6), 2);
        DUE.is("its blocks", shelf.count(4), 6);
        DUE.is("its free entries", shelf.count(5), 24);
        DUE.is("is a squeezing", shelf.count(11), 1);
        DUE.is("is recorded", shelf.count(13), 1);
        for (int name = 0; name < 24; name++) {
            DUE.is("add " + name, shelf.add(name * 28, 2, name), name * 2);
        }
        DUE.changesNothing(shelf, "the 25th", () -> shelf.add(1, 2, 1), -6);
        DUE.is("the last one's block", shelf.entry(23 * 28, 1), 5);
        shelf.remove(0);
        shelf.remove(28);
        shelf.remove(56);
        shelf.remove(84);
        DUE.is("makeAnew(5)", shelf.makeAnew(5), 6);
        DUE.is("given back", shelf.count(12), 8);
        DUE.is("the first one", shelf.entry(112, 3), 0);
        DUE.changesNothing(shelf, "makeAnew(4)", () -> shelf.makeAnew(4), -6);
        DUE.is("undo", shelf.undo(), 3);
        DUE.is("the blocks as before", shelf.count(4), 6);
    }

    private static void makingAnewSqueezes() {
        MemberShelf shelf = new MemberShelf();
        shelf.add(1, 10, 1);
        shelf.add(2, 10, 2);
        shelf.alias(3, 2);
        shelf.remove(1);
        DUE.changesNothing(shelf, "it is so, with dead texts, too", () -> shelf.makeAnew(2), -5);
        DUE.is("makeAnew(1)", shelf.makeAnew(1), 2);
        DUE.is("start", shelf.entry(2, 3), 0);
        DUE.is("start of the alias", shelf.entry(3, 3), 0);
        DUE.is("given back", shelf.count(12), 10);
        DUE.is("squeezings", shelf.count(11), 1);
        DUE.is("makeAnew(3)", shelf.makeAnew(3), 1);
        DUE.is("squeezings, also if nothing is dead", shelf.count(11), 2);
        DUE.is("given back then", shelf.count(12), 10);
        DUE.changesNothing(shelf, "makeAnew(3) again", () -> shelf.makeAnew(3), -5);
    }

    private static void makingAnewErrors() {
        MemberShelf shelf = new MemberShelf();
        for (int name = 0; name < 5; name++) {
            shelf.add(name, 1, 1);
        }
        int[] bad = {0, 7, -1, Integer.MIN_VALUE, Integer.MAX_VALUE, 1 << 30};
        for (int blocks : bad) {
            DUE.changesNothing(shelf, "makeAnew(" + blocks + ")", () -> shelf.makeAnew(blocks), -2);
        }
        DUE.changesNothing(shelf, "makeAnew(1) with five entries", () -> shelf.makeAnew(1), -6);
        shelf.remove(0);
        DUE.is("makeAnew(1) with four entries", shelf.makeAnew(1), 2);
    }
}
