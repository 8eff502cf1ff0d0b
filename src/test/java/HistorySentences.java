import java.util.List;

/** The sentences of the terms on history, and of promises 12 to 14: undo, keep, restore. */
final class HistorySentences {
    private final Due due;

    HistorySentences(Due due) {
        this.due = due;
    }

    void all() {
        fourStates();
        latestState();
        recordedActs();
        refusedActs();
        noActs();
        snapshot();
        statesHold();
        statesDoNotHold();
        undo();
        keep();
        restore();
    }

    private void fourStates() {
        due.sentence("HISTORY", "A history of at most 4 states is kept");
        due.run("count(13) = 0", "add(AA, 1, 0) = 0", "count(13) = 1", "add(AB, 1, 0) = 1", "count(13) = 2",
            "add(AC, 1, 0) = 2", "count(13) = 3", "add(AD, 1, 0) = 3", "count(13) = 4", "add(AE, 1, 0) = 4",
            "count(13) = 4", "undo() = 3", "undo() = 2", "undo() = 1", "undo() = 0", "undo() = NONE");

        due.sentence("HISTORY", "; when one more is recorded, the oldest one is dropped");
        due.run("pad(AA=1;AB=1;AC=1)", "addAll() = 3", "remove(AC) = 2", "remove(AB) = 1", "remove(AA) = 0",
            "undo() = 3", "undo() = 2", "undo() = 1", "undo() = 0", "count(0) = 0", "undo() = NONE");
        due.run("add({AA|AB|AC|AD|AE}, 1, 0)", "undo() = 3", "undo() = 2", "undo() = 1", "undo() = 0", "count(0) = 1",
            "named(0) = AA", "undo() = NONE");
        due.run("makeAnew(3) = 2", "add({AA|AB|AC|AD|AE|AF|AG|AH|AI|AJ}, 1, 0)", "undo() = 3", "count(0) = 9",
            "undo() = 2", "count(0) = 8", "add(BA, 1, 0) = 8", "count(13) = 3", "add({BB|BC}, 1, 0)", "count(13) = 4",
            "undo() = 3", "count(0) = 10", "undo() = 2", "count(0) = 9", "undo() = 1", "count(0) = 8", "undo() = 0",
            "count(0) = 7", "undo() = NONE", "named(6) = AG");
    }

    private void latestState() {
        due.sentence("HISTORY", "; undo() removes and restores the latest one.");
        due.run("add(AA, 10, 5) = 0", "replace(AA, 11, 6) = 10", "makeAnew(3) = 2", "remove(AA) = 0", "undo() = 3",
            "entry(AA, 3) = 0", "entry(AA, 4) = 11", "count(4) = 3", "undo() = 2", "entry(AA, 3) = 10", "count(4) = 2",
            "at(0) = 1000", "undo() = 1", "entry(AA, 3) = 0", "entry(AA, 4) = 10", "undo() = 0", "count(0) = 0",
            "undo() = NONE", "add(AB, 1, 0) = 0", "undo() = 0", "count(0) = 0");
    }

    private void recordedActs() {
        due.sentence("HISTORY", "Each call of a method that is described as an act, and returns no error and not NONE, "
            + "records the state that was before it.");
        String[] ahead = {"add(AA, 10, 1) = 0", "add(AB, 11, 2) = 10", "keep() = 2", "alias(AC, AB) = 10",
            "pad(AF=1;AG>AF)"};
        for (String act : List.of("add(AD, 1, 0) = 21", "replace(AA, 1, 0) = 21", "remove(AA) = 2", "remove(AC) = 2",
            "rename(AA, ZZ) = 2", "rename(AC, AZ) = 2", "alias(AC, AA) = 0", "alias(AD, AA) = 0", "addAll() = 2",
            "makeAnew(1) = 2", "restore() = 2")) {
            recorded(act, ahead);
        }
        recorded("squeeze() = 10", "add(AA, 10, 1) = 0", "remove(AA) = 0", "add(AA, 1, 0) = 10");
        // An act that leaves all as it was is one, too, and an answer of 0 is no error.
        recorded("restore() = 1", "add(AA, 10, 1) = 0", "keep() = 1");
        recorded("addAll() = 1", "add(AA, 10, 1) = 0", "alias(AB, AA) = 0", "pad(AB>AA)");
        recorded("remove(AA) = 0", "add(AA, 10, 1) = 0");
        recorded("restore() = 0", "keep() = 0");
        recorded("add(AA, 1, 0) = 0");
        due.run("keep() = 0", "restore() = 0", "restore() = 0", "count(13) = 2");
    }

    /** Behind an act and undo() all is as it was ahead of the act, and as many states are left. */
    private void recorded(String act, String... ahead) {
        String[] undone = List.of(String.join("\n", ahead), act, "undo()").stream()
            .flatMap(String::lines).toArray(String[]::new);
        due.answers(Call.all(undone));
        due.holds(act + " is recorded", Run.whole(Call.all(undone)).equals(Run.whole(Call.all(ahead))));
        String[] done = java.util.Arrays.copyOf(undone, undone.length - 1);
        due.is("one state more behind " + act, Run.states(Call.all(done)), Run.states(Call.all(ahead)) + 1);
    }

    private void refusedActs() {
        due.sentence("HISTORY", "and returns no error and not NONE, records the state that was before it.");
        due.run("add(AA, 40, 1) = 0", "add(AB, 40, 1) = 40", "add(AC, 21, 1) = FULL", "add(AA, 1, 1) = TAKEN",
            "add(AC, 0, 1) = BAD_VALUE", "replace(AC, 1, 1) = UNKNOWN", "replace(AA, 21, 1) = FULL",
            "remove(AC) = UNKNOWN", "rename(AA, AA) = NONE", "rename(AA, AB) = TAKEN", "alias(AA, AB) = TAKEN",
            "alias(AC, AC) = UNKNOWN", "addAll() = -100", "pad(AA=1)", "addAll() = TAKEN", "squeeze() = NONE",
            "makeAnew(2) = NONE", "makeAnew(7) = BAD_VALUE", "restore() = NONE", "count(13) = 2", "undo() = 1",
            "undo() = 0", "undo() = NONE", "count(13) = 0");
    }

    private void noActs() {
        due.sentence("HISTORY", "Each call of a method that is described as an act");
        due.run("add(AA, 10, 1) = 0", "type(A) = 1", "count(13) = 1", "clearPad() = 1", "count(13) = 1", "keep() = 1",
            "count(13) = 1", "undo() = 0", "count(13) = 0", "undo() = NONE");
        due.run("add(AA, 10, 1) = 0", "entry(AA, 0) = 0", "named(0) = AA", "block(0, 0) = 1", "at(0) = AA",
            "fits(1) = 0", "beginning(0, 0) = AA", "count(0) = 1", "count(13) = 1");
    }

    private void snapshot() {
        due.sentence("HISTORY", "There is one snapshot");
        due.run("add(AA, 10, 1) = 0", "keep() = 1", "add(AB, 11, 2) = 10", "keep() = 2", "remove(AA) = 1",
            "remove(AB) = 0", "restore() = 2", "entry(AB, 3) = 10", "restore() = 2", "entry(AA, 3) = 0");

        due.sentence("HISTORY", ", empty at first.");
        due.run("restore() = NONE", "add(AA, 10, 1) = 0", "restore() = NONE", "undo() = 0", "restore() = NONE");
    }

    private void statesHold() {
        due.sentence("HISTORY", "A state is everything");
        due.run("add(AA, 10, 1) = 0", "alias(AB, AA) = 0", "remove(AA) = 1", "makeAnew(3) = 2", "remove(AB) = 0",
            "squeeze() = 10", "keep() = 0", "makeAnew(6) = 3", "add(AC, 1, 0) = 0", "restore() = 0", "count(4) = 3",
            "count(6) = 0", "count(11) = 2", "count(12) = 10", "undo() = 3", "count(4) = 6", "count(11) = 3",
            "undo() = 2", "undo() = 1", "count(11) = 2", "undo() = 0", "count(11) = 1", "count(12) = 0",
            "count(6) = 10", "count(8) = 10", "at(0) = 1000");
        due.run("add(AA, 10, 1) = 0", "alias(AB, AA) = 0", "keep() = 2", "rename(AA, AC) = 1", "entry(AB, 7) = AC",
            "undo() = 2", "entry(AB, 7) = AA", "entry(AB, 8) = 0", "replace(AA, 10, 1) = 10", "entry(AB, 8) = 1",
            "restore() = 2", "entry(AB, 8) = 0", "count(6) = 10");
        // What was kept and what was recorded stays as it was, whatever is done behind it.
        due.run("add(AA, 10, 1) = 0", "keep() = 1", "replace(AA, 11, 2) = 10", "squeeze() = 10", "rename(AA, ZZ) = 0",
            "restore() = 1", "entry(AA, 4) = 10", "replace(AA, 12, 3) = 10", "rename(AA, AB) = 0", "restore() = 1",
            "entry(AA, 5) = 1", "undo() = 3", "undo() = 2", "entry(AA, 5) = 3", "undo() = 1", "entry(AA, 5) = 1",
            "remove(AA) = 0", "restore() = 1", "entry(AA, 5) = 1");
    }

    private void statesDoNotHold() {
        due.sentence("HISTORY", " but the pad, the history and the snapshot.");
        due.run("pad(AA=1)", "keep() = 0", "addAll() = 1", "type(;) = 5", "undo() = 0", "count(14) = 5",
            "restore() = 0", "count(14) = 5", "addAll() = -105", "clearPad() = 5", "undo() = 0", "count(14) = 0");
        due.run("add(AA, 1, 0) = 0", "add(AB, 1, 0) = 1", "keep() = 2", "add(AC, 1, 0) = 2", "restore() = 2",
            "count(13) = 4", "undo() = 3", "count(0) = 3", "count(13) = 3", "undo() = 2", "undo() = 1", "undo() = 0");
        due.run("add(AA, 1, 0) = 0", "keep() = 1", "add(AB, 1, 0) = 1", "keep() = 2", "undo() = 1", "undo() = 0",
            "restore() = 2", "undo() = 0", "restore() = 2", "restore() = 2", "count(13) = 2");
        due.run("keep() = 0", "add(AA, 1, 0) = 0", "undo() = 0", "restore() = 0", "keep() = 0", "undo() = 0",
            "restore() = 0");
    }

    private void undo() {
        due.sentence("Promise 12", "`int undo()`: Removes and restores the latest state of the history.");
        due.run("add(AA, 10, 1) = 0", "alias(AB, AA) = 0", "undo() = 1", "count(0) = 1", "count(13) = 1",
            "entry(AB, 0) = UNKNOWN", "undo() = 0", "count(0) = 0", "count(6) = 0", "count(13) = 0");

        due.sentence("Promise 12", "Returns the number of states that are left");
        due.run("add({AA|AB|AC|AD|AE}, 1, 0)", "undo() = 3", "undo() = 2", "undo() = 1", "undo() = 0",
            "add(AB, 1, 0) = 1", "undo() = 0");

        due.sentence("Promise 12", "; NONE if the history is empty.");
        due.run("undo() = NONE", "keep() = 0", "undo() = NONE", "type(A) = 1", "undo() = NONE",
            "add(AA, 0, 0) = BAD_VALUE", "undo() = NONE", "add(AA, 1, 0) = 0", "undo() = 0", "undo() = NONE",
            "undo() = NONE");
    }

    private void keep() {
        due.sentence("Promise 13", "`int keep()`: Takes a snapshot of the state");
        due.run("pad(AA=10,1;AB=11,2;AC>AB)", "addAll() = 3", "replace(AB, 12, 3) = 21", "makeAnew(3) = 2",
            "keep() = 3", "remove({AA|AB|AC})", "squeeze() = 33", "restore() = 3", "entry(AA, 4) = 10",
            "entry(AB, 5) = 3", "entry(AC, 7) = AB", "entry(AC, 8) = 1", "count(4) = 3", "count(6) = 33",
            "count(11) = 1");

        due.sentence("Promise 13", ", in place of the one that was.");
        due.run("add(AA, 1, 0) = 0", "keep() = 1", "remove(AA) = 0", "keep() = 0", "add(AB, 1, 0) = 1",
            "restore() = 0", "count(6) = 1");

        due.sentence("Promise 13", "Returns how many entries there are.");
        due.run("keep() = 0", "add(AA, 1, 0) = 0", "keep() = 1", "alias(AB, AA) = 0", "keep() = 2", "keep() = 2",
            "count(13) = 2", "remove(AA) = 1", "keep() = 1");
    }

    private void restore() {
        due.sentence("Promise 14", "`int restore()`: Restores the state of the snapshot");
        due.run("add(AA, 10, 1) = 0", "alias(AB, AA) = 0", "keep() = 2", "replace(AA, 20, 2) = 10",
            "rename(AB, AC) = 1", "makeAnew(4) = 2", "restore() = 2", "entry(AA, 3) = 0", "entry(AA, 4) = 10",
            "entry(AA, 5) = 1", "entry(AB, 2) = 1", "entry(AC, 0) = UNKNOWN", "count(4) = 2", "count(6) = 10",
            "count(11) = 0");

        due.sentence("Promise 14", ", which stays.");
        due.run("add(AA, 10, 1) = 0", "keep() = 1", "remove(AA) = 0", "restore() = 1", "remove(AA) = 0",
            "restore() = 1", "replace(AA, 20, 2) = 10", "undo() = 3", "undo() = 2", "restore() = 1",
            "entry(AA, 4) = 10");

        due.sentence("Promise 14", "This is an act.");
        due.run("add(AA, 10, 1) = 0", "keep() = 1", "remove(AA) = 0", "restore() = 1", "count(13) = 3", "undo() = 2",
            "count(0) = 0", "count(13) = 2");

        due.sentence("Promise 14", "Returns how many entries there are then");
        due.run("keep() = 0", "add(AA, 1, 0) = 0", "restore() = 0", "add({AA|AB|AC|AD|AE|AF|AG|AH}, 1, 0)",
            "keep() = 8", "remove(AA) = 7", "restore() = 8");

        due.sentence("Promise 14", "; NONE if there is no snapshot.");
        due.run("restore() = NONE", "add(AA, 1, 0) = 0", "restore() = NONE", "keep() = 1", "restore() = 1");
    }
}
