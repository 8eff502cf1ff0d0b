/** Promises 1 to 6: a new object, add, replace, remove, rename, alias. */
public final class MembersTest {
    private static final Due DUE = new Due("MembersTest");
    private static final int[] WILD = {Integer.MIN_VALUE, -1000, -1, 676, 10000, Integer.MAX_VALUE};

    public static void main(String[] args) {
        newObject();
        addMembers();
        addErrors();
        addFills();
        replaceTexts();
        replaceErrors();
        removeEntries();
        renameEntries();
        renameTellsAliases();
        renameOfAnAlias();
        renameErrors();
        aliases();
        aliasGivenAnew();
        aliasErrors();
        DUE.end();
    }

    private static void newObject() {
        MemberShelf shelf = new MemberShelf();
        int[] due = {0, 0, 0, 0, 2, 8, 0, 0, 0, 100, 0, 0, 0, 0, 0};
        for (int what = 0; what < due.length; what++) {
            DUE.is("new: count(" + what + ")", shelf.count(what), due[what]);
        }
        DUE.is("new: undo()", shelf.undo(), -5);
        DUE.is("new: restore()", shelf.restore(), -5);
        DUE.is("new: named(0)", shelf.named(0), -5);
        DUE.is("new: at(0)", shelf.at(0), -5);
    }

    private static void addMembers() {
        MemberShelf shelf = new MemberShelf();
        DUE.is("add(675, 40, 9999)", shelf.add(675, 40, 9999), 0);
        DUE.is("add(0, 1, 0)", shelf.add(0, 1, 0), 40);
        DUE.is("add(300, 2, 77)", shelf.add(300, 2, 77), 41);
        DUE.is("end", shelf.count(6), 43);
        int[] names = {0, 300, 675};
        int[][] texts = {{40, 1, 0}, {41, 2, 77}, {0, 40, 9999}};
        for (int rank = 0; rank < 3; rank++) {
            DUE.is("named " + rank, shelf.named(rank), names[rank]);
            for (int what = 3; what <= 5; what++) {
                DUE.is("entry(" + names[rank] + ", " + what + ")", shelf.entry(names[rank], what),
                    texts[rank][what - 3]);
            }
            DUE.is("no alias", shelf.entry(names[rank], 2), 0);
        }
        DUE.is("each is recorded", shelf.count(13), 3);
    }

    private static void addErrors() {
        MemberShelf shelf = new MemberShelf();
        shelf.add(5, 10, 1);
        for (int wild : WILD) {
            DUE.changesNothing(shelf, "add name " + wild, () -> shelf.add(wild, 1, 1), -2);
            DUE.changesNothing(shelf, "add length " + wild, () -> shelf.add(5, wild, 1), -2);
        }
        DUE.changesNothing(shelf, "add(5, 0, 1)", () -> shelf.add(5, 0, 1), -2);
        DUE.changesNothing(shelf, "add(5, 41, 1)", () -> shelf.add(5, 41, 1), -2);
        DUE.changesNothing(shelf, "add(5, 1, -1)", () -> shelf.add(5, 1, -1), -2);
        DUE.changesNothing(shelf, "add(5, 1, 10000)", () -> shelf.add(5, 1, 10000), -2);
        DUE.changesNothing(shelf, "add(5, 1, 1)", () -> shelf.add(5, 1, 1), -7);
        shelf.alias(6, 5);
        DUE.changesNothing(shelf, "add at an alias", () -> shelf.add(6, 1, 1), -7);
    }

    private static void addFills() {
        MemberShelf shelf = new MemberShelf();
        shelf.makeAnew(1);
        DUE.is("add 40", shelf.add(1, 40, 0), 0);
        DUE.is("add 40 more", shelf.add(2, 40, 0), 40);
        DUE.changesNothing(shelf, "add 21", () -> shelf.add(3, 21, 0), -3);
        DUE.is("add 20", shelf.add(3, 20, 0), 80);
        DUE.changesNothing(shelf, "add behind the room", () -> shelf.add(4, 1, 0), -3);
        shelf.alias(9, 1);
        DUE.changesNothing(shelf, "full directory ahead of full room", () -> shelf.add(4, 1, 0), -6);
        DUE.changesNothing(shelf, "taken ahead of full directory", () -> shelf.add(9, 1, 0), -7);
        DUE.changesNothing(shelf, "bad value ahead of all", () -> shelf.add(9, 0, 0), -2);
        shelf.remove(1);
        shelf.remove(9);
        DUE.changesNothing(shelf, "dead room is no room", () -> shelf.add(4, 1, 0), -3);
        shelf.squeeze();
        DUE.is("add behind squeezing", shelf.add(4, 40, 0), 60);
    }

    private static void replaceTexts() {
        MemberShelf shelf = new MemberShelf();
        shelf.add(1, 10, 5);
        shelf.add(2, 20, 6);
        DUE.is("replace(1, 5, 7)", shelf.replace(1, 5, 7), 30);
        DUE.is("its start", shelf.entry(1, 3), 30);
        DUE.is("its length", shelf.entry(1, 4), 5);
        DUE.is("its mark", shelf.entry(1, 5), 7);
        DUE.is("the old one is dead", shelf.at(0), 1000);
        DUE.is("dead units", shelf.count(8), 10);
        DUE.is("the same text is a new one", shelf.replace(1, 5, 7), 35);
        DUE.is("dead units then", shelf.count(8), 15);
        shelf.alias(3, 2);
        DUE.is("replace(2, 40, 9999)", shelf.replace(2, 40, 9999), 40);
        DUE.is("its alias stays with the old one", shelf.entry(3, 3), 10);
        DUE.is("which is not dead", shelf.at(10), 3);
        DUE.is("but lost", shelf.entry(3, 8), 1);
        DUE.is("the room's last units", shelf.replace(1, 20, 0), 80);
        DUE.is("recorded", shelf.count(13), 4);
    }

    private static void replaceErrors() {
        MemberShelf shelf = new MemberShelf();
        shelf.add(1, 40, 5);
        shelf.alias(2, 1);
        shelf.add(3, 39, 5);
        for (int wild : WILD) {
            DUE.changesNothing(shelf, "replace name " + wild, () -> shelf.replace(wild, 1, 1), -1);
            DUE.changesNothing(shelf, "replace length " + wild, () -> shelf.replace(1, wild, 1), -2);
        }
        DUE.changesNothing(shelf, "replace of an alias", () -> shelf.replace(2, 0, 1), -1);
        DUE.changesNothing(shelf, "replace of none", () -> shelf.replace(4, 0, 1), -1);
        DUE.changesNothing(shelf, "replace(1, 0, 1)", () -> shelf.replace(1, 0, 1), -2);
        DUE.changesNothing(shelf, "replace(1, 41, 1)", () -> shelf.replace(1, 41, 1), -2);
        DUE.changesNothing(shelf, "replace(1, 22, -1)", () -> shelf.replace(1, 22, -1), -2);
        DUE.changesNothing(shelf, "replace(1, 22, 10000)", () -> shelf.replace(1, 22, 10000), -2);
        DUE.changesNothing(shelf, "replace(1, 22, 0)", () -> shelf.replace(1, 22, 0), -3);
        DUE.is("replace(1, 21, 0)", shelf.replace(1, 21, 0), 79);
    }

    private static void removeEntries() {
        MemberShelf shelf = new MemberShelf();
        shelf.add(1, 10, 5);
        shelf.add(2, 20, 6);
        shelf.alias(3, 1);
        DUE.is("remove a member", shelf.remove(1), 2);
        DUE.is("its name is gone", shelf.entry(1, 0), -1);
        DUE.is("the next one's rank", shelf.entry(2, 0), 0);
        DUE.is("its text is not dead", shelf.at(9), 3);
        DUE.is("its alias is lost", shelf.entry(3, 8), 1);
        DUE.is("its alias knows its name", shelf.entry(3, 7), 1);
        DUE.is("remove an alias", shelf.remove(3), 1);
        DUE.is("the text is dead", shelf.at(9), 1000);
        DUE.is("remove the last one", shelf.remove(2), 0);
        DUE.is("the end stays", shelf.count(6), 30);
        DUE.is("all is dead", shelf.count(8), 30);
        DUE.changesNothing(shelf, "remove again", () -> shelf.remove(2), -1);
        for (int wild : WILD) {
            DUE.changesNothing(shelf, "remove " + wild, () -> shelf.remove(wild), -1);
        }
        DUE.is("each is recorded", shelf.undo(), 3);
        DUE.is("and comes back", shelf.entry(2, 3), 10);
    }

    private static void renameEntries() {
        MemberShelf shelf = new MemberShelf();
        for (int name = 10; name < 16; name++) {
            shelf.add(name, 2, name);
        }
        DUE.is("to the end", shelf.rename(10, 675), 5);
        DUE.is("to the front", shelf.rename(13, 0), 0);
        DUE.is("at the same place", shelf.rename(0, 1), 0);
        DUE.is("to the middle", shelf.rename(675, 13), 3);
        int[] names = {1, 11, 12, 13, 14, 15};
        int[] marks = {13, 11, 12, 10, 14, 15};
        for (int rank = 0; rank < 6; rank++) {
            DUE.is("named " + rank, shelf.named(rank), names[rank]);
            DUE.is("mark of " + names[rank], shelf.entry(names[rank], 5), marks[rank]);
            DUE.is("start of " + names[rank], shelf.entry(names[rank], 3), 2 * (marks[rank] - 10));
            DUE.is("length of " + names[rank], shelf.entry(names[rank], 4), 2);
        }
        DUE.is("the old name is none", shelf.entry(10, 0), -1);
        DUE.is("how many", shelf.count(0), 6);
    }

    private static void renameTellsAliases() {
        MemberShelf shelf = new MemberShelf();
        shelf.add(1, 10, 5);
        shelf.alias(2, 1);
        shelf.alias(3, 1);
        shelf.replace(1, 10, 6);
        shelf.alias(4, 1);
        shelf.rename(1, 100);
        shelf.alias(0, 100);
        shelf.rename(100, 99);
        DUE.is("the first entry knows the new name", shelf.entry(0, 7), 99);
        shelf.rename(99, 100);
        for (int alias = 2; alias <= 4; alias++) {
            DUE.is("alias " + alias + " knows the new name", shelf.entry(alias, 7), 100);
            DUE.is("alias " + alias + " lost", shelf.entry(alias, 8), alias == 4 ? 0 : 1);
        }
        shelf.remove(100);
        shelf.add(100, 1, 1);
        shelf.add(50, 1, 1);
        DUE.is("lost behind the member ahead", shelf.entry(4, 8), 1);
        shelf.rename(100, 200);
        DUE.is("given to a member ahead with this name", shelf.entry(4, 7), 200);
        DUE.is("lost still", shelf.entry(4, 8), 1);
        shelf.rename(50, 100);
        DUE.is("the old name is known no more", shelf.entry(4, 7), 200);
        shelf.remove(200);
        shelf.rename(100, 200);
        DUE.is("the name that it gets is known already", shelf.entry(4, 7), 200);
        DUE.is("and its alias is lost", shelf.entry(4, 8), 1);
    }

    private static void renameOfAnAlias() {
        MemberShelf shelf = new MemberShelf();
        shelf.add(1, 10, 5);
        shelf.alias(2, 1);
        shelf.alias(3, 1);
        DUE.is("an alias gets a name", shelf.rename(2, 500), 2);
        DUE.is("is an alias", shelf.entry(500, 2), 1);
        DUE.is("with its member", shelf.entry(500, 7), 1);
        DUE.is("not lost", shelf.entry(500, 8), 0);
        shelf.remove(1);
        shelf.rename(500, 1);
        DUE.is("an alias with the member's name is no member", shelf.entry(3, 8), 1);
        DUE.is("nor its own member", shelf.entry(1, 8), 1);
        DUE.is("it knows its own name", shelf.entry(1, 7), 1);
        shelf.rename(1, 7);
        DUE.is("no member got another name", shelf.entry(3, 7), 1);
        DUE.is("none at all", shelf.entry(7, 7), 1);
    }

    private static void renameErrors() {
        MemberShelf shelf = new MemberShelf();
        shelf.add(1, 10, 5);
        shelf.add(2, 10, 5);
        shelf.alias(3, 1);
        for (int wild : WILD) {
            DUE.changesNothing(shelf, "rename " + wild, () -> shelf.rename(wild, 1), -1);
            DUE.changesNothing(shelf, "rename to " + wild, () -> shelf.rename(1, wild), -2);
        }
        DUE.changesNothing(shelf, "unknown ahead of bad value", () -> shelf.rename(4, 676), -1);
        DUE.changesNothing(shelf, "unknown ahead of taken", () -> shelf.rename(4, 1), -1);
        DUE.changesNothing(shelf, "unknown ahead of the same", () -> shelf.rename(4, 4), -1);
        DUE.changesNothing(shelf, "taken by a member", () -> shelf.rename(1, 2), -7);
        DUE.changesNothing(shelf, "taken by an alias", () -> shelf.rename(1, 3), -7);
        DUE.changesNothing(shelf, "taken by its member", () -> shelf.rename(3, 1), -7);
        DUE.changesNothing(shelf, "the same", () -> shelf.rename(1, 1), -5);
        DUE.changesNothing(shelf, "the same alias", () -> shelf.rename(3, 3), -5);
    }

    private static void aliases() {
        MemberShelf shelf = new MemberShelf();
        shelf.add(10, 7, 70);
        shelf.add(20, 8, 80);
        DUE.is("alias(675, 20)", shelf.alias(675, 20), 7);
        DUE.is("alias(0, 20)", shelf.alias(0, 20), 7);
        DUE.is("alias(15, 10)", shelf.alias(15, 10), 0);
        DUE.is("its rank", shelf.entry(15, 0), 2);
        DUE.is("is an alias", shelf.entry(15, 2), 1);
        DUE.is("its length", shelf.entry(15, 4), 7);
        DUE.is("its mark", shelf.entry(15, 5), 70);
        DUE.is("its member", shelf.entry(15, 7), 10);
        DUE.is("the last one's start", shelf.entry(675, 3), 7);
        DUE.is("no room is used", shelf.count(6), 15);
        DUE.is("each is recorded", shelf.undo(), 3);
        DUE.is("and undone", shelf.entry(15, 2), -1);
    }

    private static void aliasGivenAnew() {
        MemberShelf shelf = new MemberShelf();
        shelf.add(10, 7, 70);
        shelf.add(20, 8, 80);
        shelf.alias(15, 10);
        DUE.changesNothing(shelf, "it is so", () -> shelf.alias(15, 10), -5);
        DUE.is("to another member", shelf.alias(15, 20), 7);
        DUE.is("its member", shelf.entry(15, 7), 20);
        DUE.is("its length", shelf.entry(15, 4), 8);
        DUE.is("its mark", shelf.entry(15, 5), 80);
        shelf.replace(20, 9, 90);
        DUE.is("to the same with its new text", shelf.alias(15, 20), 15);
        DUE.is("its mark then", shelf.entry(15, 5), 90);
        DUE.is("not lost", shelf.entry(15, 8), 0);
        DUE.is("the old text is dead", shelf.at(7), 1000);
        shelf.rename(20, 21);
        DUE.changesNothing(shelf, "it is so under the new name", () -> shelf.alias(15, 21), -5);
        shelf.makeAnew(1);
        shelf.add(22, 1, 1);
        DUE.changesNothing(shelf, "so with a full directory", () -> shelf.alias(15, 21), -5);
        DUE.is("anew with a full directory", shelf.alias(15, 10), 0);
    }

    private static void aliasErrors() {
        MemberShelf shelf = new MemberShelf();
        shelf.makeAnew(1);
        shelf.add(10, 7, 70);
        shelf.add(20, 8, 80);
        shelf.alias(15, 10);
        for (int wild : WILD) {
            DUE.changesNothing(shelf, "alias " + wild, () -> shelf.alias(wild, 10), -2);
            DUE.changesNothing(shelf, "alias to " + wild, () -> shelf.alias(1, wild), -1);
            DUE.changesNothing(shelf, "both " + wild, () -> shelf.alias(wild, wild), -1);
        }
        DUE.changesNothing(shelf, "to no entry", () -> shelf.alias(1, 2), -1);
        DUE.changesNothing(shelf, "to an alias", () -> shelf.alias(1, 15), -1);
        DUE.changesNothing(shelf, "to itself", () -> shelf.alias(15, 15), -1);
        DUE.changesNothing(shelf, "a member's name", () -> shelf.alias(20, 10), -7);
        DUE.changesNothing(shelf, "the member's own name", () -> shelf.alias(10, 10), -7);
        shelf.add(30, 8, 80);
        DUE.changesNothing(shelf, "no entry left", () -> shelf.alias(1, 10), -6);
        DUE.changesNothing(shelf, "taken though none is left", () -> shelf.alias(20, 10), -7);
    }
}
