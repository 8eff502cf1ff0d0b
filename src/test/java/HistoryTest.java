/** Promises 12 to 14: undo, keep, restore. */
public final class HistoryTest {
    private static final Due DUE = new Due("HistoryTest");

    public static void main(String[] args) {
        undoing();
        fourStates();
        everyActIsRecorded();
        keeping();
        restoring();
        snapshotsStayApart();
        DUE.end();
    }

    private static void undoing() {
        MemberShelf shelf = new MemberShelf();
        DUE.changesNothing(shelf, "undo of nothing", shelf::undo, -5);
        shelf.add(1, 10, 1);
        String first = Due.told(shelf);
        shelf.rename(1, 2);
        String second = Due.told(shelf);
        shelf.makeAnew(3);
        shelf.type('A');
        DUE.is("undo", shelf.undo(), 2);
        DUE.holds("the second state", Due.told(shelf).equals(second));
        DUE.is("the pad stays", shelf.count(14), 1);
        DUE.is("undo", shelf.undo(), 1);
        DUE.holds("the first state", Due.told(shelf).equals(first));
        DUE.is("undo", shelf.undo(), 0);
        DUE.is("nothing is there", shelf.count(0), 0);
        DUE.changesNothing(shelf, "undo of no more", shelf::undo, -5);
        shelf.add(5, 1, 1);
        DUE.is("an act behind undo is recorded", shelf.undo(), 0);
    }

    private static void fourStates() {
        MemberShelf shelf = new MemberShelf();
        for (int name = 0; name < 7; name++) {
            shelf.add(name, 1, 1);
            DUE.is("states", shelf.count(13), Math.min(4, name + 1));
        }
        for (int left = 3; left >= 0; left--) {
            DUE.is("undo", shelf.undo(), left);
            DUE.is("entries", shelf.count(0), left + 3);
        }
        DUE.is("the oldest ones were dropped", shelf.undo(), -5);
        shelf.add(9, 1, 1);
        DUE.is("entries then", shelf.count(0), 4);
        DUE.is("states then", shelf.count(13), 1);
    }

    private static void everyActIsRecorded() {
        MemberShelf shelf = new MemberShelf();
        shelf.add(0, 10, 1);
        shelf.add(1, 10, 1);
        shelf.add(2, 10, 1);
        shelf.keep();
        DUE.is("keep is no act", shelf.count(13), 3);
        Due.type(shelf, "AF=1;AG>AF");
        DUE.is("typing is no act", shelf.count(13), 3);
        java.util.List<java.util.function.IntSupplier> acts = java.util.List.of(
            () -> shelf.add(3, 1, 1), () -> shelf.replace(0, 3, 3), () -> shelf.remove(1), () -> shelf.rename(0, 4),
            () -> shelf.alias(7, 2), shelf::addAll, shelf::squeeze, () -> shelf.makeAnew(4), shelf::restore);
        for (int number = 0; number < acts.size(); number++) {
            String before = Due.told(shelf);
            DUE.holds("act " + number + " succeeds", acts.get(number).getAsInt() >= 0);
            DUE.is("states behind act " + number, shelf.count(13), 4);
            String after = Due.told(shelf);
            DUE.holds("act " + number + " changes the state", !after.equals(before));
            DUE.is("undo of act " + number, shelf.undo(), 3);
            DUE.holds("act " + number + " is undone", Due.told(shelf).equals(before));
            DUE.holds("act " + number + " again", acts.get(number).getAsInt() >= 0);
            DUE.holds("act " + number + " does the same again", Due.told(shelf).equals(after));
        }
    }

    private static void keeping() {
        MemberShelf shelf = new MemberShelf();
        DUE.is("keep of nothing", shelf.keep(), 0);
        shelf.add(1, 10, 1);
        shelf.alias(2, 1);
        DUE.is("keep", shelf.keep(), 2);
        shelf.remove(1);
        shelf.undo();
        shelf.undo();
        DUE.is("undo leaves the snapshot", shelf.restore(), 2);
        DUE.is("the alias is there", shelf.entry(2, 7), 1);
    }

    private static void restoring() {
        MemberShelf shelf = new MemberShelf();
        DUE.changesNothing(shelf, "restore of nothing", shelf::restore, -5);
        shelf.keep();
        shelf.add(1, 10, 1);
        DUE.is("restore of the empty shelf", shelf.restore(), 0);
        DUE.is("is recorded", shelf.count(13), 2);
        DUE.is("end", shelf.count(6), 0);
        DUE.is("restore of the same", shelf.restore(), 0);
        DUE.is("is recorded, too", shelf.count(13), 3);
        shelf.undo();
        DUE.is("undo of the restoring", shelf.undo(), 1);
        DUE.is("the member is there", shelf.entry(1, 3), 0);
        Due.type(shelf, "ABC");
        DUE.is("the snapshot stays", shelf.restore(), 0);
        DUE.is("the pad stays", shelf.count(14), 3);
    }

    private static void snapshotsStayApart() {
        MemberShelf shelf = new MemberShelf();
        shelf.add(1, 10, 1);
        shelf.add(2, 10, 2);
        shelf.remove(1);
        shelf.squeeze();
        shelf.makeAnew(5);
        shelf.keep();
        String kept = Due.told(shelf);
        shelf.replace(2, 30, 3);
        shelf.add(7, 30, 3);
        shelf.squeeze();
        shelf.makeAnew(1);
        DUE.is("restore", shelf.restore(), 1);
        DUE.holds("as it was kept", Due.told(shelf).equals(kept));
        shelf.rename(2, 100);
        DUE.is("restore again", shelf.restore(), 1);
        DUE.holds("as it was kept, again", Due.told(shelf).equals(kept));
    }
}
