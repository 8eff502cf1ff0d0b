/** Runs of 512 calls, drawn by a fixed row of numbers, on the program and on the model. */
public final class ModelTest {
    private static final Due DUE = new Due("ModelTest");
    private static final int RUNS = 3000;
    private static final int CALLS = 512;
    private static final int[] WILD = {Integer.MIN_VALUE, -10000, -1, 0, 41, 100, 676, 10000, Integer.MAX_VALUE};

    private long drawn = 20261119L;
    private MemberShelf shelf;
    private Model model;
    private int names;
    private int longest;

    public static void main(String[] args) {
        ModelTest test = new ModelTest();
        for (int run = 0; run < RUNS; run++) {
            test.run(run);
        }
        DUE.end();
    }

    private int draw(int bound) {
        drawn = drawn * 6364136223846793005L + 1442695040888963407L;
        return (int) Long.remainderUnsigned(drawn >>> 33, bound);
    }

    private void run(int run) {
        shelf = new MemberShelf();
        model = new Model();
        names = new int[] {4, 8, 20, 40}[draw(4)];
        longest = new int[] {2, 5, 12, 40}[draw(4)];
        int calls = 0;
        while (calls < CALLS) {
            String where = "run " + run + ", call " + calls + ": ";
            if (draw(3) > 0) {
                tell(where);
            } else if (draw(8) > 0) {
                act(where);
            } else {
                calls += typeAll(where, CALLS - calls - 1);
            }
            calls++;
        }
    }

    private int wild(int usual) {
        return draw(60) == 0 ? WILD[draw(WILD.length)] : usual;
    }

    private int name() {
        return wild(draw(40) == 0 ? draw(676) : 23 * draw(names) % 676);
    }

    private int length() {
        return wild(1 + draw(longest));
    }

    private int mark() {
        return wild(draw(10000));
    }

    private void act(String where) {
        int first = name();
        int second = name();
        int length = length();
        int mark = mark();
        switch (draw(22)) {
            case 0, 1, 2, 3 ->
                due(where, "add", first, length, shelf.add(first, length, mark), model.add(first, length, mark));
            case 4, 5 -> due(where, "replace", first, length, shelf.replace(first, length, mark),
                model.replace(first, length, mark));
            case 6, 7 -> due(where, "remove", first, 0, shelf.remove(first), model.remove(first));
            case 8, 9, 10 ->
                due(where, "rename", first, second, shelf.rename(first, second), model.rename(first, second));
            case 11, 12, 13, 14 ->
                due(where, "alias", first, second, shelf.alias(first, second), model.alias(first, second));
            case 15 -> due(where, "squeeze", 0, 0, shelf.squeeze(), model.squeeze());
            case 16 -> {
                int blocks = wild(draw(8));
                due(where, "makeAnew", blocks, 0, shelf.makeAnew(blocks), model.makeAnew(blocks));
            }
            case 17, 18 -> due(where, "undo", 0, 0, shelf.undo(), model.undo());
            case 19 -> due(where, "keep", 0, 0, shelf.keep(), model.keep());
            case 20 -> due(where, "restore", 0, 0, shelf.restore(), model.restore());
            default -> due(where, "addAll", 0, 0, shelf.addAll(), model.addAll());
        }
    }

    private void tell(String where) {
        int rank = wild(draw(26));
        int name = draw(4) == 0 ? name() : model.named(draw(1 + model.count(0)));
        int what = wild(draw(10));
        switch (draw(12)) {
            case 0, 1, 2, 3, 4 -> due(where, "entry", name, what, shelf.entry(name, what), model.entry(name, what));
            case 5 -> due(where, "named", rank, 0, shelf.named(rank), model.named(rank));
            case 6 -> {
                int block = wild(draw(7));
                int part = wild(draw(4));
                due(where, "block", block, part, shelf.block(block, part), model.block(block, part));
            }
            case 7, 8 -> {
                int unit = wild(draw(102));
                due(where, "at", unit, 0, shelf.at(unit), model.at(unit));
            }
            case 9 -> {
                int length = wild(draw(42));
                due(where, "fits", length, 0, shelf.fits(length), model.fits(length));
            }
            case 10 -> {
                int letter = draw(4) == 0 ? wild(draw(27)) : name / 26;
                int among = wild(draw(4));
                due(where, "beginning", letter, among, shelf.beginning(letter, among),
                    model.beginning(letter, among));
            }
            default -> {
                int number = wild(draw(16));
                due(where, "count", number, 0, shelf.count(number), model.count(number));
            }
        }
    }

    /** Types a text of additions, at times with a character that is drawn, and makes them. */
    private int typeAll(String where, int calls) {
        StringBuilder text = new StringBuilder();
        int additions = 1 + draw(4);
        for (int number = 0; number < additions; number++) {
            text.append(number == 0 ? "" : ";").append(letters());
            if (draw(2) == 0) {
                text.append('>').append(letters());
            } else {
                text.append('=').append(draw(20) == 0 ? draw(45) : 1 + draw(longest));
                text.append(draw(2) == 0 ? "" : "," + (draw(20) == 0 ? draw(20000) : draw(100)));
            }
        }
        if (draw(4) == 0) {
            text.setCharAt(draw(text.length()), "A=>,;0149[@a "
                .charAt(draw(13)));
        }
        if (draw(8) == 0) {
            text.setLength(draw(text.length()));
        }
        if (draw(8) > 0) {
            due(where, "clearPad", 0, 0, shelf.clearPad(), model.clearPad());
        }
        int typed = Math.min(text.length(), calls);
        for (int place = 0; place < typed; place++) {
            char character = text.charAt(place);
            due(where, "type", character, 0, shelf.type(character), model.type(character));
        }
        due(where, "addAll of " + text, 0, 0, shelf.addAll(), model.addAll());
        return typed + 1;
    }

    private String letters() {
        int name = 23 * draw(names) % 676;
        return "" + (char) ('A' + name / 26) + (char) ('A' + name % 26);
    }

    private void due(String where, String call, int first, int second, int got, int due) {
        if (got != due) {
            DUE.is(where + call + "(" + first + ", " + second + ")", got, due);
        } else {
            DUE.is(call, got, due);
        }
    }
}
