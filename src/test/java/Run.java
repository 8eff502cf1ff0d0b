import java.util.List;

/** Calls on one new object; no more than the document promises answers for. */
final class Run {
    private static final int MOST_CALLS = 512;
    /** What can be done next, so that the history, the snapshot and the pad are seen, too. */
    private static final List<List<Call>> NEXT = List.of(Call.all(), Call.all("undo()"), Call.all("undo()", "undo()"),
        Call.all("undo()", "undo()", "undo()"), Call.all("undo()", "undo()", "undo()", "undo()", "undo()"),
        Call.all("restore()"), Call.all("addAll()"), Call.all("type(;)", "addAll()", "clearPad()"),
        Call.all("add(QQ, 1, 7)"), Call.all("replace(AA, 1, 7)"), Call.all("remove(AA)"), Call.all("rename(AA, QQ)"),
        Call.all("alias(QQ, AA)"), Call.all("squeeze()"), Call.all("makeAnew(5)"));

    private final MemberShelf shelf = new MemberShelf();
    private int calls = 0;

    int make(Call call) {
        count(call.calls());
        return call.make(shelf);
    }

    private static Run of(List<Call> calls) {
        Run run = new Run();
        calls.forEach(run::make);
        return run;
    }

    private void count(int more) {
        calls += more;
        if (calls > MOST_CALLS) {
            throw new IllegalStateException("a run of more than " + MOST_CALLS + " calls proves nothing");
        }
    }

    /** Tells how many states the history has behind some calls. */
    static int states(List<Call> calls) {
        Run run = of(calls);
        run.count(1);
        return run.shelf.count(13);
    }

    /** Tells all there is behind some calls: what is told then, and what is told behind each run of NEXT. */
    static String whole(List<Call> calls) {
        StringBuilder whole = new StringBuilder();
        for (List<Call> next : NEXT) {
            Run run = of(calls);
            next.forEach(call -> whole.append(run.make(call)).append(' '));
            run.tell(whole);
        }
        return whole.toString();
    }

    private void tell(StringBuilder told) {
        int entries = shelf.count(0);
        count(1 + 15 + 10 * entries + 101 + 18);
        for (int what = 0; what <= 14; what++) {
            told.append(shelf.count(what)).append(' ');
        }
        for (int rank = 0; rank < entries; rank++) {
            int name = shelf.named(rank);
            told.append("| ").append(name);
            for (int what = 0; what <= 8; what++) {
                told.append(' ').append(shelf.entry(name, what));
            }
        }
        told.append("| ");
        for (int unit = 0; unit <= 100; unit++) {
            told.append(shelf.at(unit)).append(' ');
        }
        for (int number = 0; number < 18; number++) {
            told.append(shelf.block(number / 3, number % 3)).append(' ');
        }
    }
}
