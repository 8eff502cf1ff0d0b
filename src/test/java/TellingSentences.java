/** The sentences of promises 15 to 21: entry, named, block, at, fits, beginning, count. */
final class TellingSentences {
    private final Due due;

    TellingSentences(Due due) {
        this.due = due;
    }

    void all() {
        entryPlaces();
        entryTexts();
        entryAliases();
        entryErrors();
        named();
        block();
        blockErrors();
        at();
        fits();
        beginning();
        countsOfEntries();
        countsOfRoom();
        countsOfAllElse();
        countErrors();
    }

    private void entryPlaces() {
        due.sentence("Promise 15", "`int entry(int name, int what)`: - `name`: the name of an entry");
        due.run("entry({0|675}, 0) = UNKNOWN", "add(0, 1, 0) = 0", "add(675, 1, 0) = 1", "alias(300, 0) = 0",
            "entry(0, 0) = 0", "entry(300, 0) = 1", "entry(675, 0) = 2",
            "entry({-1|1|299|301|674|676|MIN|MAX}, 0) = UNKNOWN");

        due.sentence("Promise 15", "- `what`: 0 for its rank in the directory, 1 for its block");
        due.run("makeAnew(3) = 2", "add({BA|BB|BC|BD|BE|BF|BG|BH|BI}, 1, 0)", "entry(BA, 0) = 0", "entry(BD, 0) = 3",
            "entry(BE, 0) = 4", "entry(BH, 0) = 7", "entry(BI, 0) = 8", "entry(BA, 1) = 0", "entry(BD, 1) = 0",
            "entry(BE, 1) = 1", "entry(BH, 1) = 1", "entry(BI, 1) = 2", "rename(BI, AA) = 0", "entry(AA, 0) = 0",
            "entry(BD, 0) = 4", "entry(BD, 1) = 1", "entry(BH, 0) = 8", "entry(BH, 1) = 2");

        due.sentence("Promise 15", ", 2 for whether it is an alias (1, otherwise 0)");
        due.run("add(AA, 1, 0) = 0", "alias(AB, AA) = 0", "entry(AA, 2) = 0", "entry(AB, 2) = 1", "remove(AA) = 1",
            "entry(AB, 2) = 1", "rename(AB, AA) = 0", "entry(AA, 2) = 1", "remove(AA) = 0", "add(AA, 1, 0) = 1",
            "entry(AA, 2) = 0");
    }

    private void entryTexts() {
        due.sentence("Promise 15", ", 3 to 5 for the start, the length and the mark of its text");
        due.run("add(AB, 40, 9999) = 0", "add(AA, 1, 0) = 40", "alias(AC, AB) = 0", "entry(AB, 3) = 0",
            "entry(AB, 4) = 40", "entry(AB, 5) = 9999", "entry(AA, 3) = 40", "entry(AA, 4) = 1", "entry(AA, 5) = 0",
            "entry(AC, 3) = 0", "entry(AC, 4) = 40", "entry(AC, 5) = 9999", "replace(AB, 7, 8) = 41",
            "entry(AB, 3) = 41", "entry(AB, 4) = 7", "entry(AB, 5) = 8", "entry(AC, 3) = 0", "entry(AC, 4) = 40",
            "entry(AC, 5) = 9999");
    }

    private void entryAliases() {
        due.sentence("Promise 15", ", 6 for how many aliases point to its text (itself, too, if it is one)");
        due.run("add(AB, 10, 0) = 0", "add(AZ, 10, 0) = 10", "entry(AB, 6) = 0", "alias(AC, AB) = 0",
            "entry({AB|AC}, 6) = 1", "alias(AA, AB) = 0", "alias(AD, AZ) = 10", "entry({AA|AB|AC}, 6) = 2",
            "entry({AD|AZ}, 6) = 1", "replace(AB, 10, 0) = 20", "entry(AB, 6) = 0", "entry({AA|AC}, 6) = 2",
            "alias(AA, AB) = 20", "entry({AA|AB|AC}, 6) = 1", "remove(AB) = 4", "entry({AA|AC}, 6) = 1",
            "alias(AA, AZ) = 10", "entry({AA|AD|AZ}, 6) = 2");
        due.run("add(AA, 1, 0) = 0", "alias({AB|AC|AD|AE|AF|AG|AH}, AA) = 0", "entry({AA|AB|AH}, 6) = 7");

        due.sentence("Promise 15", ", 7 for the name of the member to which it was given (NONE for a member)");
        due.run("add(AA, 1, 0) = 0", "add(ZZ, 1, 0) = 1", "alias(AB, AA) = 0", "alias(AC, ZZ) = 1",
            "entry({AA|ZZ}, 7) = NONE", "entry(AB, 7) = 0", "entry(AC, 7) = 675", "rename(AA, AD) = 2",
            "entry(AB, 7) = AD", "remove(AD) = 3", "entry(AB, 7) = AD", "alias(AB, ZZ) = 1", "entry(AB, 7) = ZZ",
            "replace(ZZ, 1, 0) = 2", "entry({AB|AC}, 7) = ZZ", "entry(ZZ, 7) = NONE");

        due.sentence("Promise 15", ", 8 for whether it is lost (1, otherwise 0; a member never is)");
        due.run("add(AA, 1, 0) = 0", "alias(AB, AA) = 0", "alias(AC, AA) = 0", "entry({AA|AB|AC}, 8) = 0",
            "replace(AA, 1, 0) = 1", "entry({AB|AC}, 8) = 1", "entry(AA, 8) = 0", "alias(AC, AA) = 1",
            "entry(AC, 8) = 0", "entry(AB, 8) = 1", "remove(AA) = 2", "entry({AB|AC}, 8) = 1", "undo() = 3",
            "entry(AC, 8) = 0");
    }

    private void entryErrors() {
        due.sentence("Promise 15", "Returns the number; UNKNOWN;");
        due.run("entry(AA, {0|7|8|9|-1}) = UNKNOWN", "add(AA, 1, 0) = 0", "entry(AB, {0|7|9|-1}) = UNKNOWN",
            "remove(AA) = 0", "entry(AA, {0|9}) = UNKNOWN");

        due.sentence("Promise 15", "; BAD_VALUE.");
        due.run("add(AA, 1, 0) = 0", "alias(AB, AA) = 0", "entry({AA|AB}, {-1|9|MIN|MAX|256}) = BAD_VALUE",
            "entry(AA, {0|8}) = 0");
    }

    private void named() {
        due.sentence("Promise 16", "`int named(int rank)`: - `rank`: a rank in the directory, from 0");
        due.run("add(AZ, 1, 0) = 0", "named(0) = AZ", "add(BA, 1, 0) = 1", "add(AA, 1, 0) = 2", "alias(ZZ, AA) = 2",
            "named(0) = AA", "named(1) = AZ", "named(2) = BA", "named(3) = ZZ", "named(4) = NONE");

        due.sentence("Promise 16", "Returns the name; BAD_VALUE if rank is negative;");
        due.run("named({-1|-2|MIN}) = BAD_VALUE", "add(AA, 1, 0) = 0", "named({-1|MIN}) = BAD_VALUE", "named(0) = 0");

        due.sentence("Promise 16", "; NONE if there are not so many.");
        due.run("named({0|MAX}) = NONE", "add(AA, 1, 0) = 0", "named({1|7|8|24|MAX}) = NONE", "remove(AA) = 0",
            "named(0) = NONE");
        due.run("makeAnew(6) = 2",
            "add({AA|AB|AC|AD|AE|AF|AG|AH|AI|AJ|AK|AL|AM|AN|AO|AP|AQ|AR|AS|AT|AU|AV|AW|AX}, 1, 0)", "named(23) = AX",
            "named({24|25|MAX}) = NONE");
    }

    private void block() {
        due.sentence("Promise 17", "`int block(int block, int what)`: - `block`: a block");
        due.run("block({0|1}, 0) = 0", "block({-1|2|6|MIN|MAX|1073741824|536870912}, 0) = UNKNOWN", "makeAnew(1) = 2",
            "block(0, 0) = 0", "block(1, 0) = UNKNOWN", "makeAnew(6) = 1", "block(5, 0) = 0", "block(6, 0) = UNKNOWN",
            "undo() = 1", "block(0, 0) = 0", "block(1, 0) = UNKNOWN");

        due.sentence("Promise 17", "- `what`: 0 for its entries (how many), 1 for its first name, 2 for its last name");
        due.run("makeAnew(3) = 2", "add(BC, 1, 0) = 0", "block(0, 0) = 1", "block(0, {1|2}) = BC",
            "add({BD|BA|BB}, 1, 0)", "block(0, 0) = 4", "block(0, 1) = BA", "block(0, 2) = BD", "block(1, 0) = 0",
            "add(AA, 1, 0) = 4", "block(0, 0) = 4", "block(0, 1) = AA", "block(0, 2) = BC", "block(1, 0) = 1",
            "block(1, {1|2}) = BD", "add({CA|CB|CC|CD}, 1, 0)", "block(1, 0) = 4", "block(1, 1) = BD",
            "block(1, 2) = CC", "block(2, 0) = 1", "block(2, {1|2}) = CD", "remove(AA) = 8", "block(2, 0) = 0",
            "block(1, 2) = CD");
        due.run("makeAnew(6) = 2",
            "add({AA|AB|AC|AD|AE|AF|AG|AH|AI|AJ|AK|AL|AM|AN|AO|AP|AQ|AR|AS|AT|AU|AV|AW|AX}, 1, 0)", "block(5, 0) = 4",
            "block(5, 1) = AU", "block(5, 2) = AX", "block(4, 1) = AQ", "block(4, 2) = AT");

        due.sentence("Promise 17", " (1 and 2: NONE if it has none)");
        due.run("block({0|1}, {1|2}) = NONE", "add(AA, 1, 0) = 0", "block(1, {1|2}) = NONE", "block(0, {1|2}) = AA",
            "add({AB|AC|AD}, 1, 0)", "block(1, {1|2}) = NONE", "block(1, 0) = 0", "remove({AA|AB|AC|AD})",
            "block(0, {1|2}) = NONE");
    }

    private void blockErrors() {
        due.sentence("Promise 17", "Returns the number; UNKNOWN;");
        due.run("block({-1|2|MIN|MAX}, {0|1|2|3|-1}) = UNKNOWN");

        due.sentence("Promise 17", "; BAD_VALUE.");
        due.run("block({0|1}, {3|-1|MIN|MAX}) = BAD_VALUE", "add(AA, 1, 0) = 0", "block(0, {3|-1}) = BAD_VALUE",
            "block(0, {1|2}) = 0");
    }

    private void at() {
        due.sentence("Promise 18", "`int at(int unit)`: Tells what lies on a unit.");
        due.run("add(AA, 10, 0) = 0", "add(AB, 1, 0) = 10", "add(AC, 40, 0) = 11", "at({0|9}) = AA", "at(10) = AB",
            "at({11|50}) = AC", "at(51) = NONE");

        due.sentence("Promise 18", "- `unit`: 0 to 99");
        due.run("at({0|99}) = NONE", "at({-1|100|MIN|MAX}) = UNKNOWN", "add(AA, 40, 0) = 0", "add(AB, 40, 0) = 40",
            "add(AC, 20, 0) = 80", "at(0) = AA", "at(99) = AC", "at({-1|100|MIN|MAX}) = UNKNOWN");

        due.sentence("Promise 18", "Returns the lowest name that points to the text there");
        due.run("add(AM, 10, 0) = 0", "at(5) = AM", "alias(ZZ, AM) = 0", "at(5) = AM", "alias(AC, AM) = 0",
            "at(5) = AC", "alias(AB, AM) = 0", "at(5) = AB", "remove(AB) = 3", "at(5) = AC", "rename(AC, AN) = 1",
            "at(5) = AM", "remove(AM) = 2", "at(5) = AN", "remove(AN) = 1", "at(5) = ZZ", "add(AA, 1, 0) = 10",
            "at(9) = ZZ", "at(10) = AA");

        due.sentence("Promise 18", "; 1000 if that is dead;");
        due.run("add(AA, 10, 0) = 0", "add(AB, 5, 0) = 10", "remove(AA) = 1", "at({0|9}) = 1000", "at(10) = AB",
            "remove(AB) = 0", "at({10|14}) = 1000", "at(15) = NONE", "squeeze() = 15", "at(0) = NONE");
        due.run("add(AA, 40, 0) = 0", "replace(AA, 40, 0) = 40", "replace(AA, 20, 0) = 80", "remove(AA) = 0",
            "at({0|39|40|79|80|99}) = 1000");

        due.sentence("Promise 18", "; UNKNOWN; NONE if the unit is behind the end.");
        due.run("at({100|-1}) = UNKNOWN", "at(0) = NONE", "add(AA, 10, 0) = 0", "at(9) = AA", "at({10|99}) = NONE",
            "at(100) = UNKNOWN", "remove(AA) = 0", "at(9) = 1000", "at(10) = NONE", "undo() = 1", "undo() = 0",
            "at(9) = NONE");
    }

    private void fits() {
        due.sentence("Promise 19", "`int fits(int length)`: Tells whether a new text fits.");
        due.run("makeAnew(1) = 2", "fits({1|40}) = 0", "pad(AA=40;AB=40;AC=19;AD>AA)", "addAll() = 4", "fits(1) = 0",
            "add(AE, 1, 0) = DIRECTORY_FULL", "fits(2) = 2", "replace(AA, 1, 0) = 99", "fits(1) = 2");

        due.sentence("Promise 19", "- `length`: 1 to 40");
        due.run("fits({0|41|-1|100|101|MIN|MAX}) = BAD_VALUE", "fits({1|2|39|40}) = 0", "add(AA, 40, 0) = 0",
            "fits({0|41|MIN|MAX|2147483608}) = BAD_VALUE");

        due.sentence("Promise 19", "Returns 0 if it fits, 1 if it would fit behind squeezing, 2 if it would not");
        due.run("add(AA, 40, 0) = 0", "add(AB, 30, 0) = 40", "fits(30) = 0", "fits({31|40}) = 2", "alias(AC, AB) = 40",
            "replace(AB, 5, 0) = 70", "fits(25) = 0", "fits(26) = 2", "alias(AC, AB) = 70", "fits(25) = 0",
            "fits({26|40}) = 1", "replace(AB, 21, 0) = 75", "remove(AC) = 2", "fits(4) = 0", "fits({5|39}) = 1",
            "fits(40) = 2", "squeeze() = 35", "fits(39) = 0", "fits(40) = 2");
        due.run("add(AA, 40, 0) = 0", "add(AB, 20, 0) = 40", "fits(40) = 0", "add(AC, 40, 0) = 60", "fits({1|40}) = 2",
            "remove(AC) = 2", "fits({1|40}) = 1", "remove(AA) = 1", "fits(40) = 1");

        due.sentence("Promise 19", "; BAD_VALUE.");
        due.run("add(AA, 40, 0) = 0", "add(AB, 40, 0) = 40", "add(AC, 20, 0) = 80", "fits({0|41}) = BAD_VALUE",
            "remove(AA) = 2", "fits({0|41}) = BAD_VALUE", "fits({1|40}) = 1");
    }

    private void beginning() {
        due.sentence("Promise 20", "`int beginning(int letter, int rank)`: Tells the names that begin with a letter, "
            + "in their order.");
        due.run("pad(CZ=1;CA=1;BZ=1;DA=1;CM>CA)", "addAll() = 5", "beginning(1, 0) = BZ", "beginning(2, 0) = CA",
            "beginning(2, 1) = CM", "beginning(2, 2) = CZ", "beginning(3, 0) = DA", "beginning({0|4|25}, 0) = NONE");

        due.sentence("Promise 20", "- `letter`: 0 to 25");
        due.run("add(AA, 1, 0) = 0", "add(AZ, 1, 0) = 1", "add(ZA, 1, 0) = 2", "add(ZZ, 1, 0) = 3",
            "beginning(0, 0) = 0", "beginning(0, 1) = 25", "beginning(25, 0) = 650", "beginning(25, 1) = 675",
            "beginning({-1|26|MIN|MAX|165191050|1073741824}, 0) = BAD_VALUE");

        due.sentence("Promise 20", "- `rank`: a rank among them, from 0");
        due.run("add(BA, 1, 0) = 0", "add(AA, 1, 0) = 1", "add(AB, 1, 0) = 2", "beginning(1, 0) = BA",
            "beginning(1, 1) = NONE", "beginning(0, 0) = AA", "beginning(0, 1) = AB", "beginning(0, 2) = NONE");

        due.sentence("Promise 20", "Returns the name; BAD_VALUE (letter, or rank is negative);");
        due.run("beginning({-1|26}, {0|-1}) = BAD_VALUE", "beginning({0|25}, {-1|MIN}) = BAD_VALUE",
            "add(BA, 1, 0) = 0", "beginning(1, -1) = BAD_VALUE", "beginning(2, -1) = BAD_VALUE",
            "beginning({0|1|2}, MIN) = BAD_VALUE");

        due.sentence("Promise 20", "; NONE if there are not so many.");
        due.run("beginning({0|25}, {0|MAX}) = NONE", "add(BA, 1, 0) = 0", "add(CA, 1, 0) = 1",
            "beginning(1, {1|2|MAX}) = NONE", "beginning(2, {1|MAX}) = NONE", "beginning(0, {0|1|MAX}) = NONE",
            "remove(CA) = 1", "beginning(2, 0) = NONE");
        due.run("pad(AA=1;AB=1;BA=1;DA=1;DB=1;EA=1)", "addAll() = 6", "beginning(0, 2) = NONE", "beginning(1, 0) = BA",
            "beginning(1, {1|2|3}) = NONE", "beginning(2, {0|1|2}) = NONE", "beginning(3, 1) = DB",
            "beginning(3, {2|3}) = NONE", "beginning(4, {1|2}) = NONE");
    }

    private void countsOfEntries() {
        due.sentence("Promise 21",
            "`int count(int what)`: - `what`: 0 for the entries, 1 for members, 2 for aliases, 3 for lost aliases");
        due.run("count({0|1|2|3}) = 0", "add(AB, 1, 0) = 0", "add(AC, 1, 0) = 1", "alias(AA, AB) = 0",
            "alias(AD, AB) = 0", "alias(AE, AC) = 1", "count(0) = 5", "count(1) = 2", "count(2) = 3", "count(3) = 0",
            "replace(AB, 1, 0) = 2", "count(3) = 2", "alias(AA, AB) = 2", "count(3) = 1", "remove(AC) = 4",
            "count(0) = 4", "count(1) = 1", "count(2) = 3", "count(3) = 2", "remove(AE) = 3", "count(2) = 2",
            "count(3) = 1", "remove({AA|AB|AD})", "count({0|1|2|3}) = 0");

        due.sentence("Promise 21", ", 4 for the blocks, 5 for entries that are free");
        due.run("count(4) = 2", "count(5) = 8", "add(AA, 1, 0) = 0", "alias(AB, AA) = 0", "count(5) = 6",
            "makeAnew(1) = 2", "count(4) = 1", "count(5) = 2", "alias(AC, AA) = 0", "alias(AD, AA) = 0", "count(5) = 0",
            "makeAnew(6) = 1", "count(4) = 6", "count(5) = 20", "remove(AD) = 3", "count(5) = 21");
    }

    private void countsOfRoom() {
        due.sentence("Promise 21",
            ", 6 for the end of the room, 7 for units of texts that are not dead, 8 for dead units, 9 for free units "
            + "behind the end, 10 for texts that are not dead");
        due.run("count({6|7|8|10}) = 0", "count(9) = 100", "add(AA, 10, 0) = 0", "add(AB, 20, 0) = 10",
            "alias(AC, AA) = 0", "alias(AD, AA) = 0", "count(6) = 30", "count(7) = 30", "count(8) = 0", "count(9) = 70",
            "count(10) = 2", "replace(AA, 5, 0) = 30", "count(6) = 35", "count(7) = 35", "count(8) = 0",
            "count(9) = 65", "count(10) = 3", "remove(AC) = 3", "count(7) = 35", "count(10) = 3", "remove(AD) = 2",
            "count(6) = 35", "count(7) = 25", "count(8) = 10", "count(9) = 65", "count(10) = 2", "squeeze() = 10",
            "count(6) = 25", "count(7) = 25", "count(8) = 0", "count(9) = 75", "count(10) = 2");
        due.run("add(AA, 40, 0) = 0", "add(AB, 40, 0) = 40", "add(AC, 20, 0) = 80", "count(6) = 100", "count(7) = 100",
            "count(9) = 0", "count(10) = 3", "remove({AA|AB|AC})", "count(6) = 100", "count(7) = 0", "count(8) = 100",
            "count(9) = 0", "count(10) = 0");
    }

    private void countsOfAllElse() {
        due.sentence("Promise 21",
            ", 11 for squeezings so far (with those of makeAnew(), also if nothing was dead)");
        due.run("count(11) = 0", "squeeze() = NONE", "count(11) = 0", "makeAnew(3) = 2", "count(11) = 1",
            "makeAnew(3) = NONE", "makeAnew(7) = BAD_VALUE", "count(11) = 1", "add(AA, 10, 0) = 0", "remove(AA) = 0",
            "squeeze() = 10", "count(11) = 2", "add(AA, 10, 0) = 0", "remove(AA) = 0", "makeAnew(4) = 3",
            "count(11) = 3", "undo() = 3", "count(11) = 2");

        due.sentence("Promise 21", ", 12 for units given back so far");
        due.run("count(12) = 0", "add(AA, 10, 0) = 0", "remove(AA) = 0", "count(12) = 0", "squeeze() = 10",
            "count(12) = 10", "add(AA, 7, 0) = 0", "add(AB, 5, 0) = 7", "remove(AA) = 1", "makeAnew(4) = 2",
            "count(12) = 17", "makeAnew(5) = 4", "count(12) = 17", "undo() = 3", "undo() = 2", "count(12) = 10");

        due.sentence("Promise 21", ", 13 for the states in the history, 14 for the length of the pad");
        due.run("count({13|14}) = 0", "type(A) = 1", "count(14) = 1", "count(13) = 0", "add(AA, 1, 0) = 0",
            "count(13) = 1", "add(AB, 1, 0) = 1", "remove(AA) = 1", "remove(AB) = 0", "count(13) = 4",
            "add(AA, 1, 0) = 2", "count(13) = 4", "undo() = 3", "count(13) = 3", "type(B) = 2", "count(14) = 2",
            "clearPad() = 2", "count(14) = 0");
    }

    private void countErrors() {
        due.sentence("Promise 21", "Returns the number; BAD_VALUE.");
        due.run("count({-1|15|MIN|MAX|256|65536}) = BAD_VALUE", "count(0) = 0", "count(14) = 0");
    }
}
