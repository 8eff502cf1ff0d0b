/** The sentences of promises 1 to 6: a new object, add, replace, remove, rename, alias. */
final class MembersSentences {
    private final Due due;

    MembersSentences(Due due) {
        this.due = due;
    }

    void all() {
        newObject();
        add();
        addArguments();
        addErrors();
        replace();
        replaceArguments();
        replaceErrors();
        remove();
        rename();
        renameErrors();
        alias();
        aliasTells();
        aliasErrors();
    }

    private void newObject() {
        due.sentence("Promise 1", "`MemberShelf()`: Creates an empty shelf with two directory blocks.");
        due.run("count({0|1|2|3}) = 0", "count(4) = 2", "count(5) = 8", "count({6|7|8}) = 0", "count(9) = 100",
            "count({10|11|12|13|14}) = 0", "named(0) = NONE", "entry({0|675}, 0) = UNKNOWN", "block({0|1}, 0) = 0",
            "block({0|1}, {1|2}) = NONE", "block(2, 0) = UNKNOWN", "at({0|99}) = NONE", "fits({1|40}) = 0",
            "beginning({0|25}, 0) = NONE", "squeeze() = NONE", "makeAnew(2) = NONE", "addAll() = -100",
            "clearPad() = 0", "undo() = NONE", "restore() = NONE");
        MemberShelf first = new MemberShelf();
        first.add(0, 40, 1);
        first.keep();
        Due.type(first, "AB=1");
        MemberShelf second = new MemberShelf();
        due.is("count(0) of the second object", second.count(0), 0);
        due.is("count(14) of the second object", second.count(14), 0);
        due.is("undo() of the second object", second.undo(), -5);
        due.is("restore() of the second object", second.restore(), -5);
        second.add(5, 30, 2);
        due.is("count(6) of the first object", first.count(6), 40);
        due.is("named(0) of the first object", first.named(0), 0);
    }

    private void add() {
        due.sentence("Promise 2", "`int add(int name, int length, int mark)`: Adds a member.");
        due.run("add(BC, 10, 5) = 0", "entry(BC, 0) = 0", "entry(BC, 2) = 0", "entry(BC, 4) = 10", "entry(BC, 5) = 5",
            "entry(BC, 7) = NONE", "count(0) = 1", "count(1) = 1", "count(6) = 10", "add(AA, 3, 6) = 10",
            "entry(AA, 0) = 0", "entry(BC, 0) = 1", "add(AB, 4, 7) = 13", "entry(AB, 0) = 1", "entry(AB, 5) = 7",
            "entry(AA, 5) = 6", "entry(BC, 5) = 5");

        due.sentence("Promise 2", "This is an act.");
        due.run("add(AA, 10, 5) = 0", "count(13) = 1", "add(AB, 10, 5) = 10", "count(13) = 2", "undo() = 1",
            "count(0) = 1", "count(6) = 10", "undo() = 0", "count(0) = 0", "count(6) = 0");

        due.sentence("Promise 2", "Returns the start of its text");
        due.run("add(AZ, 1, 9) = 0", "add(AA, 40, 8) = 1", "add(AB, 40, 7) = 41", "add(AC, 18, 6) = 81",
            "add(AD, 1, 5) = 99", "entry(AD, 3) = 99");
        due.run("add(AA, 10, 0) = 0", "remove(AA) = 0", "add(AA, 10, 0) = 10", "squeeze() = 10", "add(AB, 1, 0) = 10");
    }

    private void addArguments() {
        due.sentence("Promise 2", "- `name`: 0 to 675");
        due.run("add({-1|676|-26|702|MIN|MAX|65536}, 1, 0) = BAD_VALUE", "add(0, 1, 0) = 0", "add(675, 2, 0) = 1",
            "add(1, 3, 0) = 3", "add(674, 4, 0) = 6", "entry(675, 4) = 2", "named(0) = 0", "named(3) = 675");

        due.sentence("Promise 2", "- `length`: 1 to 40");
        due.run("add(AA, {0|41|-1|100|101|MIN|MAX}, 0) = BAD_VALUE", "add(AA, 1, 0) = 0", "add(AB, 40, 0) = 1",
            "add(AC, 2, 0) = 41", "add(AD, 39, 0) = 43", "add(AE, {MAX|2147483566|MIN|0}, 0) = BAD_VALUE");

        due.sentence("Promise 2", "- `mark`: 0 to 9999");
        due.run("add(AA, 1, {-1|10000|MIN|MAX|65536}) = BAD_VALUE", "add(AA, 1, 0) = 0", "add(AB, 1, 9999) = 1",
            "add(AC, 1, 1) = 2", "add(AD, 1, 9998) = 3", "entry(AB, 5) = 9999", "entry(AC, 5) = 1");
    }

    private void addErrors() {
        due.sentence("Promise 2", "; BAD_VALUE;");
        due.run("makeAnew(1) = 2", "pad(AA=40;AB=40;AC=20;AD>AA)", "addAll() = 4", "add(676, 40, 0) = BAD_VALUE",
            "add(-1, 1, 0) = BAD_VALUE", "add({AA|AD|AE}, {0|41}, 0) = BAD_VALUE",
            "add({AA|AD|AE}, 1, {-1|10000}) = BAD_VALUE");

        due.sentence("Promise 2", "; TAKEN;");
        due.run("makeAnew(1) = 2", "pad(AA=40;AB=40;AC=20;AD>AA)", "addAll() = 4", "add({AA|AB|AC|AD}, 1, 0) = TAKEN");
        due.run("add(AA, 1, 0) = 0", "add(AA, 2, 1) = TAKEN", "alias(AB, AA) = 0", "add(AB, 1, 0) = TAKEN",
            "remove(AA) = 1", "add(AA, 1, 0) = 1", "rename(AA, AC) = 1", "add(AC, 1, 0) = TAKEN", "add(AA, 1, 0) = 2");

        due.sentence("Promise 2", "; DIRECTORY_FULL;");
        due.run("makeAnew(1) = 2", "pad(AA=40;AB=40;AC=20;AD>AA)", "addAll() = 4", "add(AE, 1, 0) = DIRECTORY_FULL",
            "remove(AD) = 3", "add(AE, 1, 0) = FULL");
        due.run("pad(AA=1;AB=1;AC=1;AD=1;AE=1;AF=1;AG=1)", "addAll() = 7", "add(AH, 1, 0) = 7",
            "add(AI, 1, 0) = DIRECTORY_FULL", "makeAnew(3) = 2", "add(AI, 1, 0) = 8");

        due.sentence("Promise 2", "; FULL.");
        due.run("add(AA, 40, 0) = 0", "add(AB, 40, 0) = 40", "add(AC, {21|40}, 0) = FULL", "add(AC, 20, 0) = 80",
            "add(AD, 1, 0) = FULL", "remove(AA) = 2", "remove(AB) = 1", "add(AD, 1, 0) = FULL", "squeeze() = 80",
            "add(AD, 40, 0) = 20");
    }

    private void replace() {
        due.sentence("Promise 3", "`int replace(int name, int length, int mark)`: Replaces the text of a member.");
        due.run("add(AA, 10, 5) = 0", "add(AB, 11, 6) = 10", "add(AC, 12, 7) = 21", "replace(AB, 13, 8) = 33",
            "entry(AB, 0) = 1", "entry(AB, 3) = 33", "entry(AB, 4) = 13", "entry(AB, 5) = 8", "entry(AB, 2) = 0",
            "entry(AA, 3) = 0", "entry(AC, 3) = 21", "at(10) = 1000", "count(0) = 3", "count(6) = 46",
            "count(8) = 11");

        due.sentence("Promise 3", "This is an act.");
        due.run("add(AA, 10, 5) = 0", "replace(AA, 10, 5) = 10", "count(13) = 2", "undo() = 1", "entry(AA, 3) = 0",
            "count(6) = 10");

        due.sentence("Promise 3", "Returns the start of its text then");
        due.run("add(AA, 40, 5) = 0", "replace(AA, 40, 5) = 40", "replace(AA, 19, 5) = 80", "replace(AA, 1, 5) = 99",
            "squeeze() = 99", "replace(AA, 1, 5) = 1");
    }

    private void replaceArguments() {
        due.sentence("Promise 3", "- `name`: the name of a member");
        due.run("replace({0|-1|676|MIN|MAX}, 1, 0) = UNKNOWN", "add(0, 1, 0) = 0", "add(675, 1, 0) = 1",
            "replace(0, 1, 0) = 2", "replace(675, 1, 0) = 3", "replace({-1|1|674|676|MIN|MAX}, 1, 0) = UNKNOWN",
            "remove(0) = 1", "replace(0, 1, 0) = UNKNOWN");

        due.sentence("Promise 3", "- `length`: 1 to 40");
        due.run("add(AA, 1, 0) = 0", "replace(AA, {0|41|-1|99|100|MIN|MAX}, 0) = BAD_VALUE", "replace(AA, 1, 0) = 1",
            "replace(AA, 40, 0) = 2", "entry(AA, 4) = 40", "replace(AA, {MAX|2147483606}, 0) = BAD_VALUE");

        due.sentence("Promise 3", "- `mark`: 0 to 9999");
        due.run("add(AA, 1, 1) = 0", "replace(AA, 1, {-1|10000|MIN|MAX}) = BAD_VALUE", "replace(AA, 1, 0) = 1",
            "entry(AA, 5) = 0", "replace(AA, 1, 9999) = 2", "entry(AA, 5) = 9999");
    }

    private void replaceErrors() {
        due.sentence("Promise 3", "; UNKNOWN (also if it is an alias);");
        due.run("add(AA, 40, 0) = 0", "alias(AB, AA) = 0", "replace(AA, 40, 0) = 40", "alias(AC, AA) = 40",
            "replace({AB|AC|AD}, 1, 0) = UNKNOWN", "replace({AB|AC|AD}, {0|41}, 0) = UNKNOWN",
            "replace({AB|AC|AD}, 1, 10000) = UNKNOWN", "replace({AB|AC|AD}, 40, 0) = UNKNOWN");

        due.sentence("Promise 3", "; BAD_VALUE;");
        due.run("add(AA, 40, 0) = 0", "add(AB, 40, 0) = 40", "replace(AA, {0|41}, 0) = BAD_VALUE",
            "replace(AA, {21|40}, {-1|10000}) = BAD_VALUE");

        due.sentence("Promise 3", "; FULL.");
        due.run("add(AA, 40, 0) = 0", "replace(AA, 40, 0) = 40", "replace(AA, {21|40}, 0) = FULL",
            "replace(AA, 20, 0) = 80", "replace(AA, 1, 0) = FULL", "squeeze() = 80", "replace(AA, 40, 0) = 20");
        // A replaced text's room and the directory do not matter.
        due.run("makeAnew(1) = 2", "pad(AA=40;AB=39;AC=1;AD=1)", "addAll() = 4", "replace(AC, 19, 0) = 81",
            "replace(AA, 1, 0) = FULL");
    }

    private void remove() {
        due.sentence("Promise 4", "`int remove(int name)`: Removes an entry, a member or an alias.");
        due.run("add(AA, 10, 5) = 0", "add(AB, 11, 6) = 10", "alias(AC, AB) = 10", "remove(AB) = 2",
            "entry(AB, 0) = UNKNOWN", "entry(AC, 0) = 1", "entry(AC, 8) = 1", "entry(AC, 7) = AB", "at(10) = AC",
            "remove(AC) = 1", "entry(AC, 0) = UNKNOWN", "at(10) = 1000", "named(0) = AA", "named(1) = NONE",
            "count(6) = 21", "remove(AB) = UNKNOWN");

        due.sentence("Promise 4", "This is an act.");
        due.run("add(AA, 10, 5) = 0", "remove(AA) = 0", "count(13) = 2", "undo() = 1", "entry(AA, 3) = 0",
            "entry(AA, 5) = 5");

        due.sentence("Promise 4", "- `name`: the name of an entry");
        due.run("remove({0|675|-1|676|MIN|MAX}) = UNKNOWN", "add(0, 1, 0) = 0", "add(675, 1, 0) = 1",
            "alias(300, 0) = 0", "remove({-1|1|299|301|674|676|MIN|MAX}) = UNKNOWN", "remove(675) = 2",
            "remove(300) = 1", "remove(0) = 0");

        due.sentence("Promise 4", "Returns how many entries are left");
        due.run("pad(AA=1;AB=1;AC>AA;AD=1)", "addAll() = 4", "remove(AA) = 3", "remove(AD) = 2", "remove(AC) = 1",
            "remove(AB) = 0");

        due.sentence("Promise 4", "; UNKNOWN.");
        due.run("remove(AA) = UNKNOWN", "add(AA, 1, 0) = 0", "remove(AA) = 0", "remove(AA) = UNKNOWN",
            "undo() = 1", "rename(AA, AB) = 0", "remove(AA) = UNKNOWN", "remove(AB) = 0");
    }

    private void rename() {
        due.sentence("Promise 5", "`int rename(int name, int next)`: Gives an entry another name.");
        due.run("add(AB, 10, 5) = 0", "add(AD, 11, 6) = 10", "alias(AF, AB) = 0", "rename(AB, AE) = 1",
            "entry(AB, 0) = UNKNOWN", "entry(AE, 3) = 0", "entry(AE, 4) = 10", "entry(AE, 5) = 5", "entry(AE, 2) = 0",
            "entry(AD, 3) = 10", "entry(AF, 7) = AE", "rename(AF, AA) = 0", "entry(AA, 2) = 1", "entry(AA, 3) = 0",
            "entry(AA, 4) = 10", "entry(AA, 5) = 5", "entry(AA, 7) = AE", "entry(AA, 8) = 0", "count(0) = 3",
            "count(6) = 21");

        due.sentence("Promise 5", "This is an act.");
        due.run("add(AA, 10, 5) = 0", "alias(AB, AA) = 0", "rename(AA, AC) = 1", "count(13) = 3", "undo() = 2",
            "entry(AA, 5) = 5", "entry(AB, 7) = AA", "entry(AC, 0) = UNKNOWN");

        due.sentence("Promise 5", "- `name`: the name of an entry");
        due.run("rename({0|-1|676|MIN|MAX}, 5) = UNKNOWN", "add(0, 1, 0) = 0", "add(675, 1, 0) = 1",
            "rename({-1|1|674|676|MIN|MAX}, 5) = UNKNOWN", "rename(675, 5) = 1", "rename(0, 6) = 1");

        due.sentence("Promise 5", "- `next`: 0 to 675");
        due.run("add(AB, 1, 0) = 0", "alias(AC, AB) = 0", "rename(AB, {-1|676|MIN|MAX|702}) = BAD_VALUE",
            "rename(AC, {-1|676|MIN|MAX}) = BAD_VALUE", "rename(AB, 0) = 0", "rename(AC, 675) = 1", "rename(0, 1) = 0",
            "rename(675, 674) = 1");

        due.sentence("Promise 5", "Returns its rank in the directory then, from 0");
        due.run("pad(AB=1;AD=1;AF=1;AH=1;AJ=1)", "addAll() = 5", "rename(AB, AC) = 0", "rename(AC, AE) = 1",
            "rename(AE, ZZ) = 4", "rename(ZZ, AG) = 2", "rename(AG, AA) = 0", "rename(AF, AI) = 3",
            "rename(AJ, AB) = 1", "named(0) = AA", "named(1) = AB", "named(2) = AD", "named(3) = AH", "named(4) = AI");
    }

    private void renameErrors() {
        due.sentence("Promise 5", "; UNKNOWN;");
        due.run("add(AA, 1, 0) = 0", "rename(AB, 676) = UNKNOWN", "rename(AB, -1) = UNKNOWN",
            "rename(AB, AA) = UNKNOWN", "rename(AB, AB) = UNKNOWN", "rename(676, 676) = UNKNOWN",
            "rename(AB, AC) = UNKNOWN");

        due.sentence("Promise 5", "; BAD_VALUE;");
        due.run("add(AA, 1, 0) = 0", "alias(AB, AA) = 0", "rename({AA|AB}, {676|-1}) = BAD_VALUE");

        due.sentence("Promise 5", "; TAKEN (by another entry);");
        due.run("add(AA, 1, 0) = 0", "add(AB, 1, 0) = 1", "alias(AC, AA) = 0", "rename(AA, {AB|AC}) = TAKEN",
            "rename(AB, {AA|AC}) = TAKEN", "rename(AC, {AA|AB}) = TAKEN", "remove(AB) = 2", "rename(AA, AB) = 0");

        due.sentence("Promise 5", "; NONE if both are the same.");
        due.run("add(AA, 1, 0) = 0", "alias(ZZ, AA) = 0", "rename(AA, AA) = NONE", "rename(ZZ, ZZ) = NONE",
            "count(13) = 2");
        // A full directory has room for another name.
        due.run("makeAnew(1) = 2", "pad(AA=40;AB=40;AC=20;AD>AA)", "addAll() = 4", "rename(AA, ZZ) = 3",
            "rename(AD, AA) = 0", "count(0) = 4");
    }

    private void alias() {
        due.sentence("Promise 6", "`int alias(int alias, int member)`: Gives an alias to a member, a new one, or one "
            + "that there is.");
        due.run("add(AB, 10, 5) = 0", "add(AD, 11, 6) = 10", "alias(AC, AD) = 10", "entry(AC, 0) = 1",
            "entry(AC, 2) = 1", "entry(AC, 4) = 11", "entry(AC, 5) = 6", "entry(AC, 7) = AD", "count(0) = 3",
            "count(6) = 21", "alias(AC, AB) = 0", "entry(AC, 0) = 1", "entry(AC, 2) = 1", "entry(AC, 4) = 10",
            "entry(AC, 5) = 5", "entry(AC, 7) = AB", "count(0) = 3", "alias(AA, AB) = 0", "entry(AA, 0) = 0",
            "alias(ZZ, AB) = 0", "entry(ZZ, 0) = 4");

        due.sentence("Promise 6", "This is an act.");
        due.run("add(AA, 10, 5) = 0", "add(AB, 11, 6) = 10", "alias(AC, AA) = 0", "count(13) = 3", "alias(AC, AB) = 10",
            "count(13) = 4", "undo() = 3", "entry(AC, 7) = AA", "entry(AC, 4) = 10", "undo() = 2",
            "entry(AC, 0) = UNKNOWN");

        due.sentence("Promise 6", "- `alias`: 0 to 675: the name of an alias, or of no entry");
        due.run("add(300, 1, 0) = 0", "alias({-1|676|MIN|MAX|702}, 300) = BAD_VALUE", "alias(0, 300) = 0",
            "alias(675, 300) = 0", "alias(1, 300) = 0", "alias(674, 300) = 0", "entry({0|1|674|675}, 7) = 300");

        due.sentence("Promise 6", "- `member`: the name of a member");
        due.run("alias(5, {0|5|-1|676|MIN|MAX}) = UNKNOWN", "add(0, 1, 0) = 0", "add(675, 1, 0) = 1",
            "alias(5, {-1|1|5|674|676|MIN|MAX}) = UNKNOWN", "alias(5, 0) = 0", "alias(6, 675) = 1",
            "alias({7|5}, 5) = UNKNOWN", "remove(0) = 3", "alias(7, {0|5}) = UNKNOWN");
    }

    private void aliasTells() {
        due.sentence("Promise 6", "Returns the start of the text to which it points then");
        due.run("add(AA, 10, 5) = 0", "add(AB, 11, 6) = 10", "alias(AC, AB) = 10", "replace(AB, 12, 7) = 21",
            "alias(AC, AB) = 21", "alias(AD, AB) = 21", "alias(AC, AA) = 0", "squeeze() = 11", "alias(AC, AB) = 10");

        due.sentence("Promise 6", "; NONE if it points to this text already, and was given to this member.");
        due.run("add(AA, 10, 5) = 0", "add(AB, 10, 5) = 10", "alias(AC, AA) = 0", "alias(AC, AA) = NONE",
            "alias(AC, AB) = 10", "alias(AC, AB) = NONE", "alias(AC, AA) = 0", "rename(AA, AD) = 2",
            "alias(AC, AD) = NONE", "replace(AD, 10, 5) = 20", "alias(AC, AD) = 20", "alias(AC, AD) = NONE",
            "remove(AD) = 2", "add(AD, 10, 5) = 30", "alias(AC, AD) = 30", "squeeze() = 20", "alias(AC, AD) = NONE");
        // The room and the directory do not matter: it uses none of the one, and has its entry in the other.
        due.run("makeAnew(1) = 2", "pad(AA=40;AB=40;AC=20;AD>AA)", "addAll() = 4", "alias(AD, AA) = NONE",
            "alias(AD, AB) = 40", "alias(AD, AB) = NONE");
    }

    private void aliasErrors() {
        due.sentence("Promise 6", "; UNKNOWN (member);");
        due.run("makeAnew(1) = 2", "pad(AA=1;AB=1;AC=1;AD>AA)", "addAll() = 4",
            "alias({-1|676|AA|AD|AE}, {-1|676|AE|AD}) = UNKNOWN");

        due.sentence("Promise 6", "; BAD_VALUE (alias);");
        due.run("makeAnew(1) = 2", "pad(AA=1;AB=1;AC=1;AD>AA)", "addAll() = 4", "alias({-1|676}, AA) = BAD_VALUE");

        due.sentence("Promise 6", "; TAKEN if alias is the name of a member;");
        due.run("makeAnew(1) = 2", "pad(AA=1;AB=1;AC=1;AD>AA)", "addAll() = 4", "alias({AA|AB}, AA) = TAKEN",
            "alias(AB, AC) = TAKEN", "remove(AB) = 3", "alias(AB, AC) = 2");

        due.sentence("Promise 6", "; DIRECTORY_FULL if it is a new one, and there is no room for it;");
        due.run("makeAnew(1) = 2", "pad(AA=1;AB=1;AC=1)", "addAll() = 3", "alias(AD, AA) = 0",
            "alias(AE, {AA|AB}) = DIRECTORY_FULL", "alias(AD, AB) = 1", "alias(AD, AB) = NONE", "remove(AC) = 3",
            "alias(AE, AA) = 0", "alias(AF, AA) = DIRECTORY_FULL", "makeAnew(2) = 1", "alias(AF, AA) = 0");
        due.run("pad(AA=1;AB>AA;AC>AA;AD>AA;AE>AA;AF>AA;AG>AA)", "addAll() = 7", "alias(AH, AA) = 0",
            "alias(AI, AA) = DIRECTORY_FULL");
    }
}
