/** The sentences of promises 8 and 9: squeeze and makeAnew. */
final class RoomSentences {
    private final Due due;

    RoomSentences(Due due) {
        this.due = due;
    }

    void all() {
        squeeze();
        squeezeTells();
        makeAnew();
        makeAnewTells();
        makeAnewErrors();
    }

    private void squeeze() {
        due.sentence("Promise 8", "`int squeeze()`: Squeezes the room.");
        due.run("add(AB, 10, 1) = 0", "add(AC, 11, 2) = 10", "add(AD, 12, 3) = 21", "alias(AE, AC) = 10",
            "remove(AB) = 3", "replace(AC, 13, 4) = 33", "squeeze() = 10", "entry(AE, 3) = 0", "entry(AE, 4) = 11",
            "entry(AE, 5) = 2", "entry(AE, 7) = AC", "entry(AE, 8) = 1", "entry(AD, 3) = 11", "entry(AD, 4) = 12",
            "entry(AD, 5) = 3", "entry(AC, 3) = 23", "entry(AC, 4) = 13", "entry(AC, 5) = 4", "count(6) = 36",
            "count(8) = 0", "count(11) = 1", "add(AA, 1, 5) = 36");

        due.sentence("Promise 8", "This is an act.");
        due.run("add(AA, 10, 1) = 0", "replace(AA, 11, 2) = 10", "squeeze() = 10", "count(13) = 3", "count(11) = 1",
            "undo() = 2", "entry(AA, 3) = 10", "at(0) = 1000", "count(6) = 21", "count(11) = 0", "count(12) = 0");
    }

    private void squeezeTells() {
        due.sentence("Promise 8", "Returns how many units it gives back");
        due.run("add(AA, 1, 0) = 0", "add(AB, 2, 0) = 1", "remove(AA) = 1", "squeeze() = 1", "remove(AB) = 0",
            "squeeze() = 2", "add(AA, 40, 0) = 0", "replace(AA, 40, 0) = 40", "replace(AA, 20, 0) = 80",
            "squeeze() = 80", "remove(AA) = 0", "squeeze() = 20", "count(11) = 4", "count(12) = 103");
        due.run("add(AA, 40, 0) = 0", "add(AB, 40, 0) = 40", "add(AC, 20, 0) = 80", "remove({AA|AB|AC})",
            "squeeze() = 100", "count(6) = 0");

        due.sentence("Promise 8", "; NONE if there are no dead texts.");
        due.run("squeeze() = NONE", "add(AA, 10, 0) = 0", "squeeze() = NONE", "alias(AB, AA) = 0",
            "replace(AA, 1, 0) = 10", "squeeze() = NONE", "remove(AA) = 1", "squeeze() = 1", "squeeze() = NONE",
            "remove(AB) = 0", "squeeze() = 10", "squeeze() = NONE");
        due.run("add(AA, 40, 0) = 0", "add(AB, 40, 0) = 40", "add(AC, 20, 0) = 80", "squeeze() = NONE",
            "count(11) = 0");
    }

    private void makeAnew() {
        due.sentence("Promise 9", "`int makeAnew(int blocks)`: Makes the shelf anew with a number of directory blocks");
        due.run("makeAnew(6) = 2", "count(4) = 6", "count(5) = 24", "block(5, 0) = 0", "block(6, 0) = UNKNOWN",
            "makeAnew(1) = 6", "count(4) = 1", "count(5) = 4", "block(1, 0) = UNKNOWN");

        due.sentence("Promise 9", "; all entries and texts come along, squeezed.");
        due.run("add(AB, 10, 1) = 0", "add(AC, 11, 2) = 10", "add(AD, 12, 3) = 21", "alias(AE, AC) = 10",
            "remove(AB) = 3", "replace(AC, 13, 4) = 33", "makeAnew(5) = 2", "entry(AE, 3) = 0", "entry(AE, 4) = 11",
            "entry(AE, 5) = 2", "entry(AE, 7) = AC", "entry(AE, 8) = 1", "entry(AD, 3) = 11", "entry(AD, 5) = 3",
            "entry(AC, 3) = 23", "entry(AC, 4) = 13", "entry(AC, 5) = 4", "entry(AC, 2) = 0", "count(0) = 3",
            "count(6) = 36", "count(8) = 0", "count(12) = 10", "squeeze() = NONE");
        due.run("add(AA, 10, 1) = 0", "makeAnew(3) = 2", "entry(AA, 3) = 0", "count(6) = 10", "count(12) = 0");

        due.sentence("Promise 9", "This is an act.");
        due.run("add(AA, 10, 1) = 0", "replace(AA, 11, 2) = 10", "makeAnew(3) = 2", "count(13) = 3", "undo() = 2",
            "count(4) = 2", "entry(AA, 3) = 10", "count(6) = 21", "count(11) = 0");

        due.sentence("Promise 9", "- `blocks`: 1 to 6");
        due.run("makeAnew({0|7|-1|MIN|MAX|1073741824|1073741825}) = BAD_VALUE", "makeAnew(1) = 2", "makeAnew(6) = 1",
            "makeAnew(2) = 6", "makeAnew(5) = 2", "count(4) = 5");
    }

    private void makeAnewTells() {
        due.sentence("Promise 9", "Returns the previous number of blocks");
        due.run("makeAnew(3) = 2", "makeAnew(4) = 3", "makeAnew(6) = 4", "makeAnew(1) = 6", "makeAnew(2) = 1",
            "undo() = 3", "makeAnew(5) = 1");

        due.sentence("Promise 9", "; NONE if it is so already.");
        due.run("makeAnew(2) = NONE", "makeAnew(3) = 2", "makeAnew(3) = NONE", "undo() = 0", "makeAnew(2) = NONE",
            "count(11) = 0");
        due.run("makeAnew(1) = 2", "add({AA|AB|AC|AD}, 1, 0)", "makeAnew(1) = NONE", "makeAnew(6) = 1",
            "makeAnew(6) = NONE");
        // The number of blocks is so already, whatever lies in the room.
        due.run("add(AA, 10, 0) = 0", "remove(AA) = 0", "makeAnew(2) = NONE", "count(6) = 10");
    }

    private void makeAnewErrors() {
        due.sentence("Promise 9", "; BAD_VALUE;");
        due.run("pad(AA=1;AB=1;AC=1;AD=1;AE=1)", "addAll() = 5", "makeAnew({0|7|-1}) = BAD_VALUE");

        due.sentence("Promise 9", "; DIRECTORY_FULL if the entries do not fit;");
        due.run("pad(AA=1;AB=1;AC=1;AD=1;AE>AA)", "addAll() = 5", "makeAnew(1) = DIRECTORY_FULL", "remove(AB) = 4",
            "makeAnew(1) = 2", "count(0) = 4", "makeAnew(6) = 1",
            "add({BA|BB|BC|BD|BE|BF|BG|BH|BI|BJ|BK|BL|BM|BN}, 1, 0)", "add({CA|CB|CC|CD|CE|CF}, 1, 0)",
            "count(5) = 0", "makeAnew({1|5}) = DIRECTORY_FULL",
            "remove({CA|CB|CC})", "makeAnew(5) = DIRECTORY_FULL", "remove(CD) = 20", "makeAnew(5) = 6",
            "makeAnew({1|4}) = DIRECTORY_FULL");
    }
}
