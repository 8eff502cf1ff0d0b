import java.util.ArrayList;
import java.util.List;
import java.util.regex.Matcher;
import java.util.regex.Pattern;

/**
 * A call of a run, told as "add(AB, 10, 5) = 0": names by their letters or by their numbers, behind "=" the answer
 * that is due. "add({-1|676}, 1, 0) = BAD_VALUE" tells one call for each choice. "type(A)" types a character,
 * "type(#321)" one by its number; "pad(AB=5;CD>AB)" empties the pad and types a text.
 */
final class Call {
    private static final Pattern FORM = Pattern.compile("(\\w+)\\((.*)\\)(?: = (-?\\w+))?");
    private static final Pattern CHOICE = Pattern.compile("\\{([^{}]*\\|[^{}]*)\\}");

    private final String words;
    private final String method;
    private final String arguments;
    private final String due;

    private Call(String words) {
        Matcher form = FORM.matcher(words);
        if (!form.matches()) {
            throw new IllegalArgumentException("no call: " + words);
        }
        this.words = words;
        method = form.group(1);
        arguments = form.group(2);
        due = form.group(3);
    }

    static List<Call> all(String... lines) {
        List<Call> calls = new ArrayList<>();
        for (String line : lines) {
            addChoices(line, calls);
        }
        return calls;
    }

    private static void addChoices(String line, List<Call> calls) {
        Matcher choice = CHOICE.matcher(line);
        if (!choice.find()) {
            calls.add(new Call(line));
            return;
        }
        for (String chosen : choice.group(1).split("\\|")) {
            addChoices(line.substring(0, choice.start()) + chosen + line.substring(choice.end()), calls);
        }
    }

    /** The constants stand here by their numbers in the document, so that a wrong one is found. */
    private static int number(String word) {
        switch (word) {
            case "UNKNOWN": return -1;
            case "BAD_VALUE": return -2;
            case "FULL": return -3;
            case "NONE": return -5;
            case "DIRECTORY_FULL": return -6;
            case "TAKEN": return -7;
            case "MIN": return Integer.MIN_VALUE;
            case "MAX": return Integer.MAX_VALUE;
            default: return word.matches("[A-Z][A-Z]") ? Due.name(word) : Integer.parseInt(word);
        }
    }

    boolean hasDue() {
        return due != null;
    }

    int due() {
        return number(due);
    }

    /** Tells whether the call may change something at all, when it is not refused. */
    boolean isTelling() {
        return List.of("entry", "named", "block", "at", "fits", "beginning", "count").contains(method);
    }

    /** How many calls of the object it is. */
    int calls() {
        return method.equals("pad") ? 1 + arguments.length() : 1;
    }

    int make(MemberShelf shelf) {
        if (method.equals("pad")) {
            Due.type(shelf, arguments);
            return arguments.length();
        }
        if (method.equals("type")) {
            return shelf.type(character());
        }
        String[] words = arguments.isEmpty() ? new String[0] : arguments.split(", ");
        int[] numbers = new int[words.length];
        for (int place = 0; place < words.length; place++) {
            numbers[place] = number(words[place]);
        }
        return make(shelf, numbers);
    }

    private char character() {
        return arguments.length() == 1 ? arguments.charAt(0) : (char) Integer.parseInt(arguments.substring(1));
    }

    private int make(MemberShelf shelf, int[] numbers) {
        switch (method + "/" + numbers.length) {
            case "add/3": return shelf.add(numbers[0], numbers[1], numbers[2]);
            case "replace/3": return shelf.replace(numbers[0], numbers[1], numbers[2]);
            case "remove/1": return shelf.remove(numbers[0]);
            case "rename/2": return shelf.rename(numbers[0], numbers[1]);
            case "alias/2": return shelf.alias(numbers[0], numbers[1]);
            case "addAll/0": return shelf.addAll();
            case "squeeze/0": return shelf.squeeze();
            case "makeAnew/1": return shelf.makeAnew(numbers[0]);
            case "clearPad/0": return shelf.clearPad();
            case "undo/0": return shelf.undo();
            case "keep/0": return shelf.keep();
            case "restore/0": return shelf.restore();
            case "entry/2": return shelf.entry(numbers[0], numbers[1]);
            case "named/1": return shelf.named(numbers[0]);
            case "block/2": return shelf.block(numbers[0], numbers[1]);
            case "at/1": return shelf.at(numbers[0]);
            case "fits/1": return shelf.fits(numbers[0]);
            case "beginning/2": return shelf.beginning(numbers[0], numbers[1]);
            case "count/1": return shelf.count(numbers[0]);
            default: throw new IllegalArgumentException("no call: " + words);
        }
    }

    @Override
    public String toString() {
        return words;
    }
}
