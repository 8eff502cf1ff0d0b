import java.io.IOException;
import java.io.UncheckedIOException;
import java.nio.file.Files;
import java.nio.file.Path;

/** The sentences of the terms on errors: the constants, the order of the checks, and what stands ahead of the calls. */
final class ErrorsSentences {
    private final Due due;

    ErrorsSentences(Due due) {
        this.due = due;
    }

    void all() {
        constants();
        order();
        none();
        nothingChanges();
        headings();
    }

    private void constants() {
        due.sentence("ERRORS", "Errors are reported by the constants below.");
        due.run("remove(AA) = -1", "add(AA, 0, 0) = -2", "add(AA, 40, 0) = 0", "add(AB, 40, 0) = 40",
            "add(AC, 40, 0) = -3", "rename(AA, AA) = -5", "makeAnew(1) = 2", "alias({AC|AD}, AA) = 0",
            "alias(AE, AA) = -6", "add(AA, 1, 0) = -7");

        due.sentence("ERRORS", "The constants: `UNKNOWN = -1`: There is no such name, entry, block or unit.");
        due.is("UNKNOWN", MemberShelf.UNKNOWN, -1);
        due.run("replace(AA, 1, 0) = -1", "remove(676) = -1", "rename(-1, 0) = -1", "alias(AB, AA) = -1",
            "entry(AA, 0) = -1", "block({2|-1}, 0) = -1", "at({100|-1}) = -1");

        due.sentence("ERRORS", "`BAD_VALUE = -2`: Another argument is out of range.");
        due.is("BAD_VALUE", MemberShelf.BAD_VALUE, -2);
        due.run("add(676, 1, 0) = -2", "add(AA, 1, 0) = 0", "replace(AA, 0, 0) = -2", "rename(AA, 676) = -2",
            "alias(676, AA) = -2", "makeAnew(0) = -2", "entry(AA, 9) = -2", "named(-1) = -2", "block(0, 3) = -2",
            "fits(0) = -2", "beginning(26, 0) = -2", "count(15) = -2");

        due.sentence("ERRORS", "`FULL = -3`: The room has not as much behind its end.");
        due.is("FULL", MemberShelf.FULL, -3);
        due.run("add(AA, 40, 0) = 0", "add(AB, 40, 0) = 40", "remove(AA) = 1", "add(AC, 21, 0) = -3",
            "replace(AB, 21, 0) = -3", "pad(AC=21)", "addAll() = -3");

        due.sentence("ERRORS", "`NOT_POSSIBLE = -4`: This is not possible.");
        due.is("NOT_POSSIBLE", MemberShelf.NOT_POSSIBLE, -4);

        due.sentence("ERRORS", "`NONE = -5`: There is no such thing; not an error.");
        due.is("NONE", MemberShelf.NONE, -5);
        due.run("undo() = -5", "restore() = -5", "squeeze() = -5", "makeAnew(2) = -5", "named(0) = -5",
            "block(0, 1) = -5", "at(0) = -5", "beginning(0, 0) = -5", "add(AA, 1, 0) = 0", "entry(AA, 7) = -5");

        due.sentence("ERRORS", "`DIRECTORY_FULL = -6`: The directory has no entry left.");
        due.is("DIRECTORY_FULL", MemberShelf.DIRECTORY_FULL, -6);
        due.run("pad(AA=1;AB=1;AC=1;AD=1;AE=1;AF=1;AG=1;AH=1)", "addAll() = 8", "add(AI, 1, 0) = -6",
            "alias(AI, AA) = -6", "makeAnew(1) = -6", "pad(AI>AA)", "addAll() = -6", "count(9) = 92");

        due.sentence("ERRORS", "`TAKEN = -7`: There is an entry with this name.");
        due.is("TAKEN", MemberShelf.TAKEN, -7);
        due.run("add(AA, 1, 0) = 0", "alias(AB, AA) = 0", "add({AA|AB}, 1, 0) = -7", "rename(AA, AB) = -7",
            "alias(AA, AA) = -7", "pad(AA=1)", "addAll() = -7");
    }

    private void order() {
        due.sentence("ERRORS", "Where several errors can apply, the order of the @return line is the order of the "
            + "checks.");
        String[] full = {"makeAnew(1) = 2", "pad(AA=40;AB=40;AC=20;AD>AA)", "addAll() = 4"};
        ordered(full, "add({-1|AA|AD|AE}, 0, 0) = BAD_VALUE", "add({AA|AD}, 1, 0) = TAKEN",
            "add(AE, 1, 0) = DIRECTORY_FULL");
        ordered(full, "remove(AD) = 3", "add({AA|AB|AC}, 1, 0) = TAKEN", "add(AE, 41, 0) = BAD_VALUE",
            "add(AE, 1, 0) = FULL");
        ordered(full, "replace({AD|AE|-1}, 0, -1) = UNKNOWN", "replace({AD|AE}, 1, 0) = UNKNOWN",
            "replace(AA, 41, 0) = BAD_VALUE", "replace(AA, 40, 10000) = BAD_VALUE", "replace(AA, 1, 0) = FULL");
        ordered(full, "rename({AE|676}, {-1|676|AA|AE}) = UNKNOWN", "rename(AA, -1) = BAD_VALUE",
            "rename(AA, AD) = TAKEN", "rename(AA, AA) = NONE");
        ordered(full, "alias({-1|676|AA|AD|AE}, {AD|AE|676}) = UNKNOWN", "alias({-1|676}, AA) = BAD_VALUE",
            "alias({AA|AB}, {AA|AB}) = TAKEN", "alias(AE, AA) = DIRECTORY_FULL", "alias(AD, AA) = NONE");
        ordered(full, "pad(AA=1;AE=1;A)", "addAll() = -111", "pad(AE=1;AA=1)", "addAll() = DIRECTORY_FULL",
            "pad(AA=1;AE=1)", "addAll() = TAKEN", "pad(AE>AE)", "addAll() = UNKNOWN");
        due.run("pad(AA=1;AB=1;AC=1;AD=1;AE=1)", "addAll() = 5", "makeAnew(0) = BAD_VALUE",
            "makeAnew(1) = DIRECTORY_FULL", "makeAnew(2) = NONE", "entry(AF, {-1|9}) = UNKNOWN",
            "entry(AA, 9) = BAD_VALUE", "block({-1|2}, {-1|3}) = UNKNOWN", "block(1, {-1|3}) = BAD_VALUE");
    }

    private void ordered(String[] ahead, String... calls) {
        String[] all = java.util.Arrays.copyOf(ahead, ahead.length + calls.length);
        System.arraycopy(calls, 0, all, ahead.length, calls.length);
        due.run(all);
    }

    private void none() {
        due.sentence("ERRORS", "NONE is no error; it is returned only if no error applies.");
        due.run("named({-1|MIN}) = BAD_VALUE", "named(0) = NONE", "block(2, 1) = UNKNOWN", "block(0, 3) = BAD_VALUE",
            "block(0, 1) = NONE", "at(100) = UNKNOWN", "at(99) = NONE", "beginning(26, 9) = BAD_VALUE",
            "beginning(0, -1) = BAD_VALUE", "beginning(0, 9) = NONE", "makeAnew(0) = BAD_VALUE", "makeAnew(2) = NONE",
            "rename(AA, AA) = UNKNOWN", "rename(676, 676) = UNKNOWN", "alias(AA, AA) = UNKNOWN",
            "entry(AA, 7) = UNKNOWN", "add(AA, 1, 0) = 0", "rename(AA, AA) = NONE", "alias(AA, AA) = TAKEN");
        due.run("add(AA, 1, 0) = 0", "alias(AB, AA) = 0", "pad(AB>AA)", "addAll() = 1");
    }

    private void nothingChanges() {
        due.sentence("ERRORS", "A call that returns an error or NONE changes nothing.");
        due.run("add(AA, 40, 1) = 0", "add(AB, 30, 2) = 40", "alias(AC, AA) = 0", "keep() = 3", "remove(AA) = 2",
            "pad(AD=1;AE>AB;AF=30)", "add(AD, 31, 0) = FULL", "add(AB, 1, 0) = TAKEN", "add(AD, 0, 0) = BAD_VALUE",
            "replace(AC, 1, 0) = UNKNOWN", "replace(AB, 31, 0) = FULL", "replace(AB, 1, -1) = BAD_VALUE",
            "remove(AA) = UNKNOWN", "rename(AA, AD) = UNKNOWN", "rename(AB, 676) = BAD_VALUE", "rename(AB, AC) = TAKEN",
            "rename(AB, AB) = NONE", "alias(AC, AA) = UNKNOWN", "alias(676, AB) = BAD_VALUE", "alias(AB, AB) = TAKEN",
            "addAll() = FULL", "squeeze() = NONE", "makeAnew(7) = BAD_VALUE", "makeAnew(2) = NONE",
            "entry(AA, 0) = UNKNOWN", "named(-1) = BAD_VALUE", "named(2) = NONE", "block(2, 0) = UNKNOWN",
            "at(70) = NONE", "fits(41) = BAD_VALUE", "beginning(1, 0) = NONE", "count(15) = BAD_VALUE", "count(13) = 4",
            "restore() = 3", "count(14) = 16");
        due.run("makeAnew(1) = 2", "pad(AA=1;AB=2;AC>AB;AD=3;AE=4)", "addAll() = DIRECTORY_FULL", "count(6) = 0",
            "undo() = 0", "undo() = NONE", "restore() = NONE", "pad(AA=1?)", "addAll() = -104", "count(14) = 5");
    }

    /** The document tells which headings the interface has: in the program they are comments. */
    private void headings() {
        String program = program();
        heading(program, "Ahead of the calls `add`, `replace`, `remove`, `rename`, `alias`, `addAll` the interface "
            + "says: ---- members.");
        heading(program, "Ahead of the calls `squeeze`, `makeAnew` the interface says: ---- the shelf.");
        heading(program, "Ahead of the calls `type`, `clearPad` the interface says: ---- the pad.");
        heading(program, "Ahead of the calls `undo`, `keep`, `restore` the interface says: ---- history.");
        heading(program, "Ahead of the calls `entry`, `named`, `block`, `at`, `fits`, `beginning`, `count` the "
            + "interface says: ---- what is told.");
    }

    private void heading(String program, String sentence) {
        due.sentence("ERRORS", sentence);
        String words = sentence.replaceAll(".*says: |\\.$", "");
        int from = program.indexOf("// " + words + "\n");
        int next = program.indexOf("// ----", from + 1);
        due.holds("the heading " + words, from >= 0);
        for (String call : sentence.replaceAll("^[^`]*`|`[^`]*$", "").split("`, `")) {
            int place = program.indexOf("public int " + call + "(");
            due.holds(call + " stands behind its heading", from < place && (next < 0 || place < next));
        }
    }

    private static String program() {
        try {
            return Files.readString(Path.of("src/main/java/MemberShelf.java"));
        } catch (IOException missing) {
            throw new UncheckedIOException(missing);
        }
    }
}
