import java.util.ArrayList;
import java.util.List;

/** The sentences of the terms on names, entries, texts, room, members and aliases; and how long an object is used. */
final class TermsSentences {
    private final Due due;

    TermsSentences(Due due) {
        this.due = due;
    }

    void all() {
        use();
        names();
        blocks();
        order();
        fullDirectory();
        entries();
        room();
        texts();
        end();
        deadTexts();
        squeezing();
        members();
        aliases();
        lostAliases();
        knownNames();
    }

    private void use() {
        due.sentence("What it is", "An object is used for at most 512 calls after it has been made");
        List<Call> squeezings = new ArrayList<>(Call.all("add(AA, 40, 1) = 0"));
        for (int turn = 0; turn < 255; turn++) {
            squeezings.addAll(Call.all("replace(AA, 40, 2) = 40", "squeeze() = 40"));
        }
        due.answers(with(squeezings, "count(11) = 255"));
        due.answers(with(squeezings, "count(12) = 10200"));
        due.answers(with(squeezings, "undo() = 3"));
        List<Call> restorings = new ArrayList<>(Call.all("add(AA, 1, 0) = 0", "keep() = 1"));
        for (int turn = 0; turn < 509; turn++) {
            restorings.addAll(Call.all("restore() = 1"));
        }
        due.answers(with(restorings, "count(13) = 4"));
    }

    private static List<Call> with(List<Call> calls, String last) {
        List<Call> with = new ArrayList<>(calls);
        with.addAll(Call.all(last));
        return with;
    }

    private void names() {
        due.sentence("NAMES AND ENTRIES", "A name is two letters from A to Z, told as a number: 26 times the first one "
            + "and the second one, A being 0 (0 to 675).");
        due.run("pad(AA=1;AZ=2;BA=3;ZZ=4;NO>AZ)", "addAll() = 5", "named(0) = 0", "named(1) = 25", "named(2) = 26",
            "named(3) = 352", "named(4) = 675", "entry(0, 4) = 1", "entry(25, 4) = 2", "entry(26, 4) = 3",
            "entry(675, 4) = 4", "entry(352, 7) = 25", "beginning(0, 1) = 25", "beginning(1, 0) = 26",
            "beginning(25, 0) = 675");
        due.run("add({-1|676|MIN|MAX}, 1, 0) = BAD_VALUE", "add(0, 1, 0) = 0", "add(675, 1, 0) = 1",
            "rename(0, {-1|676|MIN|MAX}) = BAD_VALUE", "alias({-1|676|MIN|MAX}, 0) = BAD_VALUE");
    }

    private void blocks() {
        due.sentence("NAMES AND ENTRIES", "The directory has a number of blocks (1 to 6; 2 at first)");
        due.run("count(4) = 2", "block(1, 0) = 0", "block(2, 0) = UNKNOWN", "makeAnew({0|7}) = BAD_VALUE",
            "makeAnew(1) = 2", "count(4) = 1", "block(0, 0) = 0", "block(1, 0) = UNKNOWN", "makeAnew(6) = 1",
            "count(4) = 6", "block(5, 0) = 0", "block(6, 0) = UNKNOWN", "makeAnew({0|7}) = BAD_VALUE");

        due.sentence("NAMES AND ENTRIES", ", each with room for 4 entries.");
        due.run("makeAnew(1) = 2", "count(5) = 4", "add(AA, 1, 0) = 0", "add(AB, 1, 0) = 1", "alias(AC, AA) = 0",
            "count(5) = 1", "alias(AD, AA) = 0", "count(5) = 0", "block(0, 0) = 4", "add(AE, 1, 0) = DIRECTORY_FULL",
            "alias(AE, AA) = DIRECTORY_FULL", "remove(AC) = 3", "add(AE, 1, 0) = 2");
        due.run("pad(AA=1;AB=1;AC=1;AD=1;AE=1;AF=1;AG=1)", "addAll() = 7", "count(5) = 1", "add(AH, 1, 0) = 7",
            "count(5) = 0", "block(1, 0) = 4", "add(AI, 1, 0) = DIRECTORY_FULL", "alias(AI, AA) = DIRECTORY_FULL");
        due.run("makeAnew(6) = 2", "add({AA|AB|AC|AD|AE|AF|AG|AH|AI|AJ|AK|AL|AM|AN|AO|AP|AQ|AR|AS|AT|AU|AV|AW}, 1, 0)",
            "count(5) = 1", "add(AX, 1, 0) = 23", "count(5) = 0", "block(5, 0) = 4", "add(AY, 1, 0) = DIRECTORY_FULL",
            "alias(AY, AA) = DIRECTORY_FULL");
    }

    private void order() {
        due.sentence("NAMES AND ENTRIES",
            "Entries are kept in the order of their names, in the blocks one behind the other");
        due.run("pad(ZZ=1;BA=2;AZ=3;AA=4;MM>AZ)", "addAll() = 5", "named(0) = AA", "named(1) = AZ", "named(2) = BA",
            "named(3) = MM", "named(4) = ZZ", "block(0, 1) = AA", "block(0, 2) = MM", "block(1, 1) = ZZ",
            "block(1, 2) = ZZ", "add(AB, 1, 0) = 10", "named(1) = AB", "block(0, 2) = BA", "block(1, 1) = MM");

        due.sentence("NAMES AND ENTRIES",
            ": the entries 0 to 3 in the block 0, the entries 4 to 7 in the block 1, and so on.");
        due.run("makeAnew(3) = 2", "add({BA|BB|BC|BD|BE|BF|BG|BH|BI}, 1, 0)", "entry({BA|BB|BC|BD}, 1) = 0",
            "entry({BE|BF|BG|BH}, 1) = 1", "entry(BI, 1) = 2", "add(AA, 1, 0) = 9", "entry({AA|BA|BC}, 1) = 0",
            "entry({BD|BG}, 1) = 1", "entry({BH|BI}, 1) = 2", "remove(BB) = 9", "entry({AA|BA|BC|BD}, 1) = 0",
            "entry({BE|BF|BG|BH}, 1) = 1", "entry(BI, 1) = 2");
        due.run("makeAnew(6) = 2",
            "add({AA|AB|AC|AD|AE|AF|AG|AH|AI|AJ|AK|AL|AM|AN|AO|AP|AQ|AR|AS|AT|AU|AV|AW|AX}, 1, 0)",
            "entry({AI|AL}, 1) = 2", "entry({AM|AP}, 1) = 3", "entry({AQ|AT}, 1) = 4", "entry({AU|AX}, 1) = 5");
    }

    /** All 24 entries, put from both sides, named, removed and brought back. */
    private void fullDirectory() {
        due.sentence("NAMES AND ENTRIES", "Entries are kept in the order of their names");
        List<Call> full = new ArrayList<>(Call.all("makeAnew(6) = 2",
            "add({AA|AC|AE|AG|AI|AK|AM|AO|AQ|AS|AU|AX|AV|AT|AR|AP|AN|AL|AJ|AH|AF|AD}, 1, 5)", "add(AB, 3, 6) = 22",
            "alias(AW, AB) = 22"));
        for (int rank = 0; rank < 24; rank++) {
            full.addAll(Call.all("named(" + rank + ") = " + rank, "entry(" + rank + ", 0) = " + rank));
        }
        full.addAll(Call.all("entry(AB, 3) = 22", "entry(AC, 3) = 1", "entry(AX, 3) = 11", "entry(AD, 3) = 21",
            "entry(AX, 5) = 5", "entry(AW, 4) = 3", "add(BA, 1, 0) = DIRECTORY_FULL", "rename(AW, ZZ) = 23",
            "entry(ZZ, 3) = 22", "entry(ZZ, 4) = 3", "entry(ZZ, 5) = 6", "entry(ZZ, 7) = AB", "rename(AB, BB) = 22",
            "entry(ZZ, 7) = BB", "entry(ZZ, 8) = 0", "named(1) = AC", "named(21) = AX", "named(22) = BB", "keep() = 24",
            "remove(AC) = 23", "named(1) = AD", "named(22) = ZZ", "entry(ZZ, 7) = BB", "named(23) = NONE",
            "undo() = 3", "named(1) = AC", "entry(ZZ, 3) = 22", "entry(ZZ, 4) = 3", "entry(ZZ, 5) = 6",
            "entry(ZZ, 7) = BB", "remove(ZZ) = 23", "restore() = 24", "entry(ZZ, 3) = 22", "entry(ZZ, 4) = 3",
            "entry(ZZ, 5) = 6", "entry(ZZ, 7) = BB", "undo() = 3", "undo() = 2", "entry(ZZ, 7) = BB"));
        due.answers(full);
    }

    private void entries() {
        due.sentence("NAMES AND ENTRIES", "A name has at most one entry.");
        due.run("add(AA, 1, 0) = 0", "add(AA, 1, 0) = TAKEN", "add(AB, 1, 0) = 1", "alias(AC, AA) = 0",
            "add(AC, 1, 0) = TAKEN", "alias(AB, AA) = TAKEN", "rename(AA, {AB|AC}) = TAKEN", "rename(AC, AA) = TAKEN",
            "alias(AC, AB) = 1", "count(0) = 3");

        due.sentence("NAMES AND ENTRIES", "An entry is a member or an alias, and points to a text.");
        due.run("add(AA, 3, 0) = 0", "add(AB, 4, 0) = 3", "alias(AC, AB) = 3", "entry({AA|AB}, 2) = 0",
            "entry(AC, 2) = 1", "entry(AA, 3) = 0", "entry({AB|AC}, 3) = 3", "count(0) = 3", "count(1) = 2",
            "count(2) = 1");
    }

    private void room() {
        due.sentence("TEXTS AND ROOM", "The room has 100 units, numbered from 0.");
        due.run("count(9) = 100", "at({0|99}) = NONE", "at({-1|100}) = UNKNOWN", "add(AA, 40, 0) = 0",
            "add(AB, 40, 0) = 40", "add(AC, 19, 0) = 80", "count(9) = 1", "at(0) = AA", "at(99) = NONE",
            "add(AD, 1, 0) = 99", "count(9) = 0", "count(6) = 100", "at(99) = AD", "at({-1|100}) = UNKNOWN",
            "add(AE, 1, 0) = FULL");
    }

    private void texts() {
        due.sentence("TEXTS AND ROOM",
            "A text has a start, a length (1 to 40) and a mark (0 to 9999, which stands for what it says).");
        due.run("add(AA, 1, 9999) = 0", "add(AB, 40, 0) = 1", "add(AC, {0|41}, 0) = BAD_VALUE",
            "add(AC, 1, {-1|10000}) = BAD_VALUE", "entry(AA, 3) = 0", "entry(AA, 4) = 1", "entry(AA, 5) = 9999",
            "entry(AB, 3) = 1", "entry(AB, 4) = 40", "entry(AB, 5) = 0", "replace(AA, {0|41}, 0) = BAD_VALUE",
            "replace(AA, 1, {-1|10000}) = BAD_VALUE", "replace(AA, 40, 0) = 41", "entry(AA, 5) = 0",
            "replace(AB, 1, 9999) = 81", "entry(AB, 4) = 1", "entry(AB, 5) = 9999");
    }

    private void end() {
        due.sentence("TEXTS AND ROOM", "A new text is laid behind the last unit that was ever used since the last "
            + "squeezing (the end; 0 at first)");
        due.run("count(6) = 0", "add(AA, 10, 0) = 0", "remove(AA) = 0", "count(6) = 10", "add(AA, 10, 0) = 10",
            "add(AB, 5, 0) = 20", "remove(AB) = 1", "replace(AA, 7, 0) = 25", "count(6) = 32", "squeeze() = 25",
            "count(6) = 7", "add(AB, 5, 0) = 7", "remove(AB) = 1", "makeAnew(3) = 2", "add(AB, 5, 0) = 7",
            "undo() = 3", "undo() = 2", "undo() = 1", "count(6) = 12", "add(AC, 1, 0) = 12");
        due.run("add(AA, 10, 0) = 0", "remove(AA) = 0", "squeeze() = 10", "count(6) = 0", "add(AA, 10, 0) = 0");

        due.sentence("TEXTS AND ROOM", "; it fits if its units are all in the room.");
        due.run("add(AA, 40, 0) = 0", "add(AB, 40, 0) = 40", "add(AC, 21, 0) = FULL", "replace(AA, 21, 0) = FULL",
            "add(AC, 19, 0) = 80", "add(AD, 2, 0) = FULL", "replace(AB, 1, 0) = 99", "add(AD, 1, 0) = FULL",
            "replace(AB, 1, 0) = FULL");
        due.run("add(AA, 40, 0) = 0", "add(AB, 40, 0) = 40", "add(AC, 20, 0) = 80", "add(AD, 1, 0) = FULL");
    }

    private void deadTexts() {
        due.sentence("TEXTS AND ROOM", "A text to which no entry points is dead");
        due.run("add(AA, 10, 0) = 0", "alias(AB, AA) = 0", "alias(AC, AA) = 0", "remove(AA) = 2", "count(8) = 0",
            "remove(AB) = 1", "count(8) = 0", "at({0|9}) = AC", "remove(AC) = 0", "count(8) = 10", "at({0|9}) = 1000",
            "at(10) = NONE");

        due.sentence("TEXTS AND ROOM", ": its units stay used, until the room is squeezed.");
        due.run("add(AA, 40, 0) = 0", "replace(AA, 40, 0) = 40", "remove(AA) = 0", "count(6) = 80", "count(9) = 20",
            "add(AB, 21, 0) = FULL", "squeeze() = 80", "count(6) = 0", "count(9) = 100", "at(0) = NONE",
            "add(AB, 21, 0) = 0");
    }

    private void squeezing() {
        due.sentence("TEXTS AND ROOM", "To squeeze: the texts that are not dead are laid one behind the other from the "
            + "unit 0 on, in the order in which they lay");
        due.run("pad(ZZ=2;AH=3;MM=5;AC=7;XX=11;AM=13)", "addAll() = 6", "alias(ZA, MM) = 5", "alias(AB, XX) = 17",
            "remove(AH) = 7", "remove(AC) = 6", "squeeze() = 10", "entry(ZZ, 3) = 0", "entry({MM|ZA}, 3) = 2",
            "entry({XX|AB}, 3) = 7", "entry(AM, 3) = 18", "entry({MM|ZA}, 4) = 5", "entry({XX|AB}, 4) = 11",
            "at(2) = MM", "at(7) = AB", "count(10) = 4", "count(6) = 31");
        due.run("add(AA, 1, 11) = 0", "add(AB, 2, 12) = 1", "remove(AA) = 1", "squeeze() = 1", "entry(AB, 3) = 0",
            "entry(AB, 4) = 2", "entry(AB, 5) = 12");

        due.sentence("TEXTS AND ROOM", "; the dead ones are gone");
        due.run("add(AA, 10, 0) = 0", "add(AB, 20, 0) = 10", "remove(AB) = 1", "squeeze() = 20", "count(8) = 0",
            "at(10) = NONE", "at(29) = NONE", "squeeze() = NONE");

        due.sentence("TEXTS AND ROOM", "; the end is behind the last one.");
        due.run("add(AA, 10, 0) = 0", "add(AB, 20, 0) = 10", "add(AC, 30, 0) = 30", "remove(AC) = 2", "squeeze() = 30",
            "count(6) = 30", "at(29) = AB", "remove(AA) = 1", "squeeze() = 10", "count(6) = 20", "at(19) = AB",
            "at(20) = NONE", "remove(AB) = 0", "squeeze() = 20", "count(6) = 0");
        due.run("add(AA, 40, 0) = 0", "add(AB, 40, 0) = 40", "replace(AA, 20, 0) = 80", "squeeze() = 40",
            "entry(AB, 3) = 0", "entry(AA, 3) = 40", "count(6) = 60");
    }

    private void members() {
        due.sentence("MEMBERS AND ALIASES", "A member that is replaced gets a new text");
        due.run("add(AA, 10, 5) = 0", "replace(AA, 10, 5) = 10", "entry(AA, 3) = 10", "replace(AA, 3, 6) = 20",
            "entry(AA, 3) = 20", "entry(AA, 4) = 3", "entry(AA, 5) = 6");

        due.sentence("MEMBERS AND ALIASES", "; its old one is dead, if no alias points to it.");
        due.run("add(AA, 10, 5) = 0", "replace(AA, 10, 6) = 10", "at({0|9}) = 1000", "count(8) = 10",
            "alias(AB, AA) = 10", "replace(AA, 10, 7) = 20", "at({10|19}) = AB", "count(8) = 10", "remove(AB) = 1",
            "at({10|19}) = 1000", "count(8) = 20");
    }

    private void aliases() {
        due.sentence("MEMBERS AND ALIASES", "An alias is given to a member, and points to the text that this has then");
        due.run("add(AA, 10, 5) = 0", "replace(AA, 11, 6) = 10", "alias(AB, AA) = 10", "entry(AB, 3) = 10",
            "entry(AB, 4) = 11", "entry(AB, 5) = 6", "entry(AB, 7) = AA", "alias(AC, AB) = UNKNOWN");

        due.sentence("MEMBERS AND ALIASES", "; it stays with that text, whatever becomes of the member");
        due.run("add(ZZ, 4, 9) = 0", "add(AA, 10, 5) = 4", "alias(AB, AA) = 4", "replace(AA, 11, 6) = 14",
            "entry(AB, 3) = 4", "entry(AB, 4) = 10", "entry(AB, 5) = 5", "rename(AA, BB) = 1", "entry(AB, 3) = 4",
            "remove(BB) = 2", "entry(AB, 3) = 4", "entry(AB, 5) = 5", "add(BB, 12, 7) = 25", "entry(AB, 3) = 4",
            "remove(ZZ) = 2", "squeeze() = 15", "entry(AB, 3) = 0", "entry(AB, 4) = 10", "entry(AB, 5) = 5");

        due.sentence("MEMBERS AND ALIASES", "It can be given anew to a member.");
        due.run("add(AA, 10, 5) = 0", "add(AB, 20, 6) = 10", "alias(AC, AA) = 0", "alias(AC, AB) = 10",
            "entry(AC, 7) = AB", "entry(AC, 4) = 20", "entry(AC, 5) = 6", "replace(AB, 5, 7) = 30",
            "entry(AC, 8) = 1", "alias(AC, AB) = 30", "entry(AC, 8) = 0", "remove(AB) = 2", "entry(AC, 8) = 1",
            "alias(AC, AA) = 0", "entry(AC, 7) = AA", "entry(AC, 8) = 0", "count(0) = 2");
    }

    private void lostAliases() {
        due.sentence("MEMBERS AND ALIASES",
            " (it is lost, if the member does not point to that text any more, or is not there).");
        due.run("add(AA, 10, 5) = 0", "alias(AB, AA) = 0", "entry(AB, 8) = 0", "rename(AA, AC) = 1",
            "entry(AB, 8) = 0", "makeAnew(1) = 2", "entry(AB, 8) = 0", "replace(AC, 10, 5) = 10", "entry(AB, 8) = 1",
            "count(3) = 1");
        due.run("add(AA, 10, 5) = 0", "alias(AB, AA) = 0", "remove(AA) = 1", "entry(AB, 8) = 1", "count(3) = 1",
            "add(AA, 10, 5) = 10", "entry(AB, 8) = 1", "entry(AA, 8) = 0", "count(3) = 1", "undo() = 3", "undo() = 2",
            "entry(AB, 8) = 0", "count(3) = 0");
        // An alias with the name that is known is no member, even if it points to the same text.
        due.run("add(AA, 10, 5) = 0", "alias(AB, AA) = 0", "alias(AC, AA) = 0", "remove(AA) = 2", "rename(AC, AA) = 0",
            "entry({AA|AB}, 8) = 1", "entry({AA|AB}, 7) = AA", "count(3) = 2");
        // Another member with the name that is known does not have the text.
        due.run("add(AA, 10, 5) = 0", "alias(AB, AA) = 0", "add(AC, 10, 5) = 10", "remove(AA) = 2",
            "rename(AC, AA) = 0", "entry(AB, 8) = 1", "squeeze() = NONE");
    }

    private void knownNames() {
        due.sentence("MEMBERS AND ALIASES", "An alias knows the name of the member to which it was given; when a "
            + "member gets another name, aliases that know its name know the new one");
        due.run("add(AC, 10, 5) = 0", "add(AZ, 10, 5) = 10", "alias(AA, AC) = 0", "alias(AB, AC) = 0",
            "alias(AD, AC) = 0", "alias(AE, AZ) = 10", "entry({AA|AB|AD}, 7) = AC", "rename(AC, ZZ) = 5",
            "entry({AA|AB|AD}, 7) = ZZ", "entry({AA|AB|AD}, 8) = 0", "entry(AE, 7) = AZ", "rename(ZZ, AC) = 2",
            "entry({AA|AB|AD}, 7) = AC", "rename(AA, ZA) = 5", "entry(ZA, 7) = AC");
        due.run("add(AA, 10, 5) = 0", "alias(AB, AA) = 0", "remove(AA) = 1", "entry(AB, 7) = AA",
            "add(AC, 10, 5) = 10", "rename(AC, AD) = 1", "entry(AB, 7) = AA", "alias(AE, AD) = 10",
            "rename(AE, AA) = 0", "rename(AA, AF) = 2", "entry(AB, 7) = AA", "entry(AF, 7) = AD");
        // A lost alias, whose member has another text by now, knows the new name, too.
        due.run("add(AA, 10, 5) = 0", "alias(AB, AA) = 0", "replace(AA, 10, 5) = 10", "rename(AA, AC) = 1",
            "entry(AB, 7) = AC", "entry(AB, 8) = 1");

        due.sentence("MEMBERS AND ALIASES", " (also if they were given to a member ahead of it that had this name).");
        due.run("add(AA, 10, 5) = 0", "alias(AB, AA) = 0", "remove(AA) = 1", "add(AA, 10, 5) = 10",
            "alias(AC, AA) = 10", "rename(AA, AD) = 2", "entry({AB|AC}, 7) = AD", "entry(AB, 8) = 1",
            "entry(AC, 8) = 0");
        due.run("add(AA, 10, 5) = 0", "alias(AB, AA) = 0", "remove(AA) = 1", "add(AC, 10, 5) = 10",
            "rename(AC, AA) = 0", "entry(AB, 7) = AA", "rename(AA, AC) = 1", "entry(AB, 7) = AC", "entry(AB, 8) = 1");
    }
}
