/** A shelf of members behind a directory in front, as ../shared/DOC.md tells it. */
public final class MemberShelf {
    /** There is no such name, entry, block or unit. */
    public static final int UNKNOWN = -1;
    /** Another argument is out of range. */
    public static final int BAD_VALUE = -2;
    /** The room has not as much behind its end. */
    public static final int FULL = -3;
    /** This is not possible. */
    public static final int NOT_POSSIBLE = -4;
    /** There is no such thing; not an error. */
    public static final int NONE = -5;
    /** The directory has no entry left. */
    public static final int DIRECTORY_FULL = -6;
    /** There is an entry with this name. */
    public static final int TAKEN = -7;

    private static final int LETTERS = 26;
    private static final int NAMES = LETTERS * LETTERS;
    private static final int FIRST_BLOCKS = 2;
    private static final int MOST_BLOCKS = 6;
    private static final int BLOCK_ENTRIES = 4;
    private static final int MOST_ENTRIES = MOST_BLOCKS * BLOCK_ENTRIES;
    private static final int UNITS = 100;
    private static final int LONGEST_TEXT = 40;
    private static final int GREATEST_MARK = 9999;
    private static final int DEAD = 1000;
    private static final int PAD_CHARACTERS = 60;
    private static final int HISTORY_STATES = 4;
    private static final int PAD_FAULT = -100;
    /** A rank, a number or a fault that there is not. */
    private static final int NOWHERE = -1;

    private final State shelf = new State();
    /** The state that an act makes; it becomes the shelf's own only if the act succeeds. */
    private final State trial = new State();
    private final State snapshot = new State();
    private boolean hasSnapshot = false;
    private final History history = new History();
    private final Pad pad = new Pad();

    /** Creates an empty shelf with two directory blocks. */
    public MemberShelf() {
    }

    // ---- members

    /** Returns the start of its text; BAD_VALUE; TAKEN; DIRECTORY_FULL; FULL. */
    public int add(int name, int length, int mark) {
        trial.copyFrom(shelf);
        return settle(trial.addMember(name, length, mark));
    }

    /** Returns the start of its text then; UNKNOWN (also if it is an alias); BAD_VALUE; FULL. */
    public int replace(int name, int length, int mark) {
        trial.copyFrom(shelf);
        return settle(trial.replaceText(name, length, mark));
    }

    /** Returns how many entries are left; UNKNOWN. */
    public int remove(int name) {
        trial.copyFrom(shelf);
        return settle(trial.removeEntry(name));
    }

    /** Returns its rank in the directory then; UNKNOWN; BAD_VALUE; TAKEN; NONE. */
    public int rename(int name, int next) {
        trial.copyFrom(shelf);
        return settle(trial.renameEntry(name, next));
    }

    /** Returns the start of its text then; UNKNOWN; BAD_VALUE; TAKEN; DIRECTORY_FULL; NONE. */
    public int alias(int alias, int member) {
        trial.copyFrom(shelf);
        return settle(trial.giveAlias(alias, member));
    }

    /** Returns how many additions the pad has; -100 minus its fault; the first addition's error. */
    public int addAll() {
        int fault = pad.readAdditions();
        if (fault != NOWHERE) {
            return PAD_FAULT - fault;
        }
        trial.copyFrom(shelf);
        return settle(pad.makeAdditions(trial));
    }

    // ---- the shelf

    /** Returns how many units it gives back; NONE if there are no dead texts. */
    public int squeeze() {
        trial.copyFrom(shelf);
        return settle(trial.giveBackDeadRoom());
    }

    /** Returns the previous number of blocks; BAD_VALUE; DIRECTORY_FULL; NONE if it is so already. */
    public int makeAnew(int blocks) {
        trial.copyFrom(shelf);
        return settle(trial.changeBlocks(blocks));
    }

    // ---- the pad

    /** Returns the length of the pad then; FULL if it has 60 characters. */
    public int type(char character) {
        return pad.append(character);
    }

    /** Returns the length that the pad had. */
    public int clearPad() {
        return pad.empty();
    }

    // ---- history

    /** Returns the number of states that are left; NONE if the history is empty. */
    public int undo() {
        if (!history.giveLatestTo(shelf)) {
            return NONE;
        }
        return history.size();
    }

    /** Returns how many entries there are. */
    public int keep() {
        snapshot.copyFrom(shelf);
        hasSnapshot = true;
        return shelf.size();
    }

    /** Returns how many entries there are then; NONE if there is no snapshot. */
    public int restore() {
        if (!hasSnapshot) {
            return NONE;
        }
        trial.copyFrom(snapshot);
        return settle(trial.size());
    }

    // ---- what is told

    /** Returns what is asked of an entry; UNKNOWN; BAD_VALUE. */
    public int entry(int name, int what) {
        return shelf.tellEntry(name, what);
    }

    /** Returns the name at a rank; BAD_VALUE if rank is negative; NONE if there are not so many. */
    public int named(int rank) {
        return shelf.tellName(rank);
    }

    /** Returns what is asked of a block; UNKNOWN; BAD_VALUE. */
    public int block(int block, int what) {
        return shelf.tellBlock(block, what);
    }

    /** Returns the lowest name that points to the text on a unit; 1000 if that is dead; UNKNOWN; NONE. */
    public int at(int unit) {
        return shelf.tellUnit(unit);
    }

    /** Returns 0 if it fits, 1 if it would behind squeezing, 2 if it would not; BAD_VALUE. */
    public int fits(int length) {
        return shelf.tellFit(length);
    }

    /** Returns a name that begins with a letter; BAD_VALUE; NONE if there are not so many. */
    public int beginning(int letter, int rank) {
        return shelf.tellBeginning(letter, rank);
    }

    /** Returns the number that is asked for; BAD_VALUE. */
    public int count(int what) {
        switch (what) {
            case 13:
                return history.size();
            case 14:
                return pad.length();
            default:
                return shelf.tellCount(what);
        }
    }

    /** Ends an act: answers below 0 are errors or NONE, which change nothing. */
    private int settle(int answer) {
        if (answer >= 0) {
            history.keepState(shelf);
            shelf.copyFrom(trial);
        }
        return answer;
    }

    /**
     * A state: the entries in the order of their names, and the room. Each entry has its text's start, length
     * and mark beside it; no two texts have the same start, so entries with one start point to one text, and
     * a unit ahead of the end on which no entry's text lies is a dead one's.
     */
    private static final class State {
        private final int[] names = new int[MOST_ENTRIES];
        /** The name of the member to which an alias was given; NONE for a member. */
        private final int[] givers = new int[MOST_ENTRIES];
        private final int[] starts = new int[MOST_ENTRIES];
        private final int[] lengths = new int[MOST_ENTRIES];
        private final int[] marks = new int[MOST_ENTRIES];
        private int size = 0;
        private int blocks = FIRST_BLOCKS;
        private int end = 0;
        private int squeezings = 0;
        private int unitsGivenBack = 0;

        void copyFrom(State other) {
            System.arraycopy(other.names, 0, names, 0, MOST_ENTRIES);
            System.arraycopy(other.givers, 0, givers, 0, MOST_ENTRIES);
            System.arraycopy(other.starts, 0, starts, 0, MOST_ENTRIES);
            System.arraycopy(other.lengths, 0, lengths, 0, MOST_ENTRIES);
            System.arraycopy(other.marks, 0, marks, 0, MOST_ENTRIES);
            size = other.size;
            blocks = other.blocks;
            end = other.end;
            squeezings = other.squeezings;
            unitsGivenBack = other.unitsGivenBack;
        }

        int size() {
            return size;
        }

        int addMember(int name, int length, int mark) {
            if (!isName(name) || !isLength(length) || !isMark(mark)) {
                return BAD_VALUE;
            }
            if (isRank(rankOf(name))) {
                return TAKEN;
            }
            if (isDirectoryFull()) {
                return DIRECTORY_FULL;
            }
            if (!hasRoom(length)) {
                return FULL;
            }
            int start = layText(length);
            insertEntry(name, NONE, start, length, mark);
            return start;
        }

        int replaceText(int name, int length, int mark) {
            int rank = rankOf(name);
            if (!isMember(rank)) {
                return UNKNOWN;
            }
            if (!isLength(length) || !isMark(mark)) {
                return BAD_VALUE;
            }
            if (!hasRoom(length)) {
                return FULL;
            }
            int start = layText(length);
            setEntry(rank, name, NONE, start, length, mark);
            return start;
        }

        int removeEntry(int name) {
            int rank = rankOf(name);
            if (!isRank(rank)) {
                return UNKNOWN;
            }
            takeOut(rank);
            return size;
        }

        int renameEntry(int name, int next) {
            int rank = rankOf(name);
            if (!isRank(rank)) {
                return UNKNOWN;
            }
            if (!isName(next)) {
                return BAD_VALUE;
            }
            int holder = rankOf(next);
            if (holder == rank) {
                return NONE;
            }
            if (isRank(holder)) {
                return TAKEN;
            }
            if (isMember(rank)) {
                tellAliases(name, next);
            }
            int giver = givers[rank];
            int start = starts[rank];
            int length = lengths[rank];
            int mark = marks[rank];
            takeOut(rank);
            return insertEntry(next, giver, start, length, mark);
        }

        int giveAlias(int alias, int member) {
            int source = rankOf(member);
            if (!isMember(source)) {
                return UNKNOWN;
            }
            if (!isName(alias)) {
                return BAD_VALUE;
            }
            int rank = rankOf(alias);
            if (isMember(rank)) {
                return TAKEN;
            }
            int start = starts[source];
            if (!isRank(rank)) {
                if (isDirectoryFull()) {
                    return DIRECTORY_FULL;
                }
                insertEntry(alias, member, start, lengths[source], marks[source]);
                return start;
            }
            if (starts[rank] == start && givers[rank] == member) {
                return NONE;
            }
            setEntry(rank, alias, member, start, lengths[source], marks[source]);
            return start;
        }

        int giveBackDeadRoom() {
            if (deadUnits() == 0) {
                return NONE;
            }
            return closeUp();
        }

        int changeBlocks(int number) {
            if (number < 1 || number > MOST_BLOCKS) {
                return BAD_VALUE;
            }
            if (size > number * BLOCK_ENTRIES) {
                return DIRECTORY_FULL;
            }
            if (number == blocks) {
                return NONE;
            }
            int previous = blocks;
            blocks = number;
            closeUp();
            return previous;
        }

        int tellEntry(int name, int what) {
            int rank = rankOf(name);
            if (!isRank(rank)) {
                return UNKNOWN;
            }
            switch (what) {
                case 0:
                    return rank;
                case 1:
                    return rank / BLOCK_ENTRIES;
                case 2:
                    return isMember(rank) ? 0 : 1;
                case 3:
                    return starts[rank];
                case 4:
                    return lengths[rank];
                case 5:
                    return marks[rank];
                case 6:
                    return aliasesOf(starts[rank]);
                case 7:
                    return givers[rank];
                case 8:
                    return isLost(rank) ? 1 : 0;
                default:
                    return BAD_VALUE;
            }
        }

        int tellName(int rank) {
            if (rank < 0) {
                return BAD_VALUE;
            }
            return isRank(rank) ? names[rank] : NONE;
        }

        int tellBlock(int block, int what) {
            if (block < 0 || block >= blocks) {
                return UNKNOWN;
            }
            int first = block * BLOCK_ENTRIES;
            int entries = Math.max(0, Math.min(BLOCK_ENTRIES, size - first));
            switch (what) {
                case 0:
                    return entries;
                case 1:
                    return tellName(first);
                case 2:
                    return entries == 0 ? NONE : tellName(first + entries - 1);
                default:
                    return BAD_VALUE;
            }
        }

        int tellUnit(int unit) {
            if (unit < 0 || unit >= UNITS) {
                return UNKNOWN;
            }
            if (unit >= end) {
                return NONE;
            }
            for (int rank = 0; rank < size; rank++) {
                if (unit >= starts[rank] && unit < starts[rank] + lengths[rank]) {
                    return names[rank];
                }
            }
            return DEAD;
        }

        int tellFit(int length) {
            if (!isLength(length)) {
                return BAD_VALUE;
            }
            if (hasRoom(length)) {
                return 0;
            }
            return livingUnits() + length <= UNITS ? 1 : 2;
        }

        int tellBeginning(int letter, int rank) {
            if (letter < 0 || letter >= LETTERS || rank < 0) {
                return BAD_VALUE;
            }
            int ahead = namesBelow(letter * LETTERS);
            int beginning = namesBelow((letter + 1) * LETTERS) - ahead;
            return rank < beginning ? tellName(ahead + rank) : NONE;
        }

        int tellCount(int what) {
            switch (what) {
                case 0:
                    return size;
                case 1:
                    return size - aliases();
                case 2:
                    return aliases();
                case 3:
                    return lostAliases();
                case 4:
                    return blocks;
                case 5:
                    return blocks * BLOCK_ENTRIES - size;
                case 6:
                    return end;
                case 7:
                    return livingUnits();
                case 8:
                    return deadUnits();
                case 9:
                    return UNITS - end;
                case 10:
                    return livingTexts();
                case 11:
                    return squeezings;
                case 12:
                    return unitsGivenBack;
                default:
                    return BAD_VALUE;
            }
        }

        private static boolean isName(int name) {
            return name >= 0 && name < NAMES;
        }

        private static boolean isLength(int length) {
            return length >= 1 && length <= LONGEST_TEXT;
        }

        private static boolean isMark(int mark) {
            return mark >= 0 && mark <= GREATEST_MARK;
        }

        private boolean isRank(int rank) {
            return rank >= 0 && rank < size;
        }

        private boolean isMember(int rank) {
            return isRank(rank) && givers[rank] == NONE;
        }

        private boolean isLost(int rank) {
            if (!isRank(rank) || isMember(rank)) {
                return false;
            }
            int member = rankOf(givers[rank]);
            return !isMember(member) || starts[member] != starts[rank];
        }

        /** Tells whether no entry ahead of this one points to the same text. */
        private boolean isFirstOfText(int rank) {
            if (!isRank(rank)) {
                return false;
            }
            for (int ahead = 0; ahead < rank; ahead++) {
                if (starts[ahead] == starts[rank]) {
                    return false;
                }
            }
            return true;
        }

        private boolean isDirectoryFull() {
            return size >= blocks * BLOCK_ENTRIES;
        }

        private boolean hasRoom(int length) {
            return end + length <= UNITS;
        }

        private int rankOf(int name) {
            for (int rank = 0; rank < size; rank++) {
                if (names[rank] == name) {
                    return rank;
                }
            }
            return NOWHERE;
        }

        private int namesBelow(int name) {
            int below = 0;
            for (int rank = 0; rank < size; rank++) {
                if (names[rank] < name) {
                    below++;
                }
            }
            return below;
        }

        private int aliases() {
            int aliases = 0;
            for (int rank = 0; rank < size; rank++) {
                if (!isMember(rank)) {
                    aliases++;
                }
            }
            return aliases;
        }

        private int lostAliases() {
            int lost = 0;
            for (int rank = 0; rank < size; rank++) {
                if (isLost(rank)) {
                    lost++;
                }
            }
            return lost;
        }

        private int aliasesOf(int start) {
            int aliases = 0;
            for (int rank = 0; rank < size; rank++) {
                if (starts[rank] == start && !isMember(rank)) {
                    aliases++;
                }
            }
            return aliases;
        }

        private int livingTexts() {
            int texts = 0;
            for (int rank = 0; rank < size; rank++) {
                if (isFirstOfText(rank)) {
                    texts++;
                }
            }
            return texts;
        }

        private int livingUnits() {
            int units = 0;
            for (int rank = 0; rank < size; rank++) {
                if (isFirstOfText(rank)) {
                    units += lengths[rank];
                }
            }
            return units;
        }

        private int deadUnits() {
            return end - livingUnits();
        }

        private int layText(int length) {
            int start = end;
            end += length;
            return start;
        }

        private void tellAliases(int name, int next) {
            for (int rank = 0; rank < size; rank++) {
                if (givers[rank] == name) {
                    givers[rank] = next;
                }
            }
        }

        private int insertEntry(int name, int giver, int start, int length, int mark) {
            if (isDirectoryFull()) {
                return DIRECTORY_FULL;
            }
            int rank = namesBelow(name);
            moveEntries(rank, rank + 1, size - rank);
            size++;
            setEntry(rank, name, giver, start, length, mark);
            return rank;
        }

        private void takeOut(int rank) {
            if (isRank(rank)) {
                moveEntries(rank + 1, rank, size - rank - 1);
                size--;
            }
        }

        private void setEntry(int rank, int name, int giver, int start, int length, int mark) {
            if (isRank(rank)) {
                names[rank] = name;
                givers[rank] = giver;
                starts[rank] = start;
                lengths[rank] = length;
                marks[rank] = mark;
            }
        }

        private void moveEntries(int from, int to, int entries) {
            if (from < 0 || to < 0 || entries < 0 || Math.max(from, to) > MOST_ENTRIES - entries) {
                return;
            }
            System.arraycopy(names, from, names, to, entries);
            System.arraycopy(givers, from, givers, to, entries);
            System.arraycopy(starts, from, starts, to, entries);
            System.arraycopy(lengths, from, lengths, to, entries);
            System.arraycopy(marks, from, marks, to, entries);
        }

        /** Squeezes the room and tells how many units that gives back. */
        private int closeUp() {
            int laid = 0;
            // A text that is laid lies ahead of the unit that is looked at, so none is met a second time.
            for (int unit = 0; unit < UNITS; unit++) {
                laid += moveText(unit, laid);
            }
            int units = end - laid;
            end = laid;
            squeezings++;
            unitsGivenBack += units;
            return units;
        }

        /** Moves the text that starts at a unit, and tells its length; 0 if none does. */
        private int moveText(int from, int to) {
            int length = 0;
            for (int rank = 0; rank < size; rank++) {
                if (starts[rank] == from) {
                    starts[rank] = to;
                    length = lengths[rank];
                }
            }
            return length;
        }
    }

    /** The latest states, the oldest one first. */
    private static final class History {
        private final State[] states = new State[HISTORY_STATES];
        private int size = 0;

        History() {
            for (int place = 0; place < HISTORY_STATES; place++) {
                states[place] = new State();
            }
        }

        int size() {
            return size;
        }

        void keepState(State state) {
            if (size >= HISTORY_STATES) {
                dropOldest();
            }
            State place = states[size];
            if (place != null) {
                place.copyFrom(state);
                size++;
            }
        }

        /** Takes the latest state off; tells whether there was one. */
        boolean giveLatestTo(State state) {
            if (size <= 0 || size > HISTORY_STATES) {
                return false;
            }
            State latest = states[size - 1];
            if (latest == null) {
                return false;
            }
            state.copyFrom(latest);
            size--;
            return true;
        }

        private void dropOldest() {
            State oldest = states[0];
            for (int place = 1; place < HISTORY_STATES; place++) {
                states[place - 1] = states[place];
            }
            states[HISTORY_STATES - 1] = oldest;
            size = HISTORY_STATES - 1;
        }
    }

    /** The characters that were typed, and the additions that are read from them. */
    private static final class Pad {
        /** The shortest addition has four characters, and a fifth one stands between two. */
        private static final int MOST_ADDITIONS = (PAD_CHARACTERS + 1) / 5;
        private static final int LONGEST_NUMBER = 4;

        private final char[] characters = new char[PAD_CHARACTERS];
        private int length = 0;

        private final int[] names = new int[MOST_ADDITIONS];
        /** The name of the member to which an alias is given; NONE for a member. */
        private final int[] givers = new int[MOST_ADDITIONS];
        private final int[] lengths = new int[MOST_ADDITIONS];
        private final int[] marks = new int[MOST_ADDITIONS];
        private int additions = 0;
        /** The place that is read next: where reading ends with a fault, it is the fault's. */
        private int place = 0;

        int length() {
            return length;
        }

        int append(char character) {
            if (length >= PAD_CHARACTERS) {
                return FULL;
            }
            characters[length] = character;
            length++;
            return length;
        }

        int empty() {
            int previous = length;
            length = 0;
            return previous;
        }

        /** Reads the additions; tells the fault, or NOWHERE if there is none. */
        int readAdditions() {
            additions = 0;
            place = 0;
            // The turn above the most of them finds what is wrong behind the last one.
            for (int turn = 0; turn <= MOST_ADDITIONS; turn++) {
                if (!readAddition()) {
                    return place;
                }
                if (place >= length) {
                    return NOWHERE;
                }
                if (!takes(';')) {
                    return place;
                }
            }
            return place;
        }

        /** Makes the additions that were read; tells how many there are, or the first error. */
        int makeAdditions(State state) {
            for (int number = 0; number < additions && number < MOST_ADDITIONS; number++) {
                int answer = givers[number] == NONE
                    ? state.addMember(names[number], lengths[number], marks[number])
                    : state.giveAlias(names[number], givers[number]);
                if (answer < 0 && answer != NONE) {
                    return answer;
                }
            }
            return additions;
        }

        private boolean readAddition() {
            int name = readName();
            if (name == NOWHERE) {
                return false;
            }
            if (takes('=')) {
                return readMember(name);
            }
            return takes('>') && readAlias(name);
        }

        private boolean readMember(int name) {
            int units = readNumber(1, LONGEST_TEXT);
            if (units == NOWHERE) {
                return false;
            }
            int mark = 0;
            if (takes(',')) {
                mark = readNumber(0, GREATEST_MARK);
            }
            return mark != NOWHERE && noteAddition(name, NONE, units, mark);
        }

        private boolean readAlias(int name) {
            int member = readName();
            return member != NOWHERE && noteAddition(name, member, 0, 0);
        }

        private int readName() {
            int first = readLetter();
            if (first == NOWHERE) {
                return NOWHERE;
            }
            int second = readLetter();
            if (second == NOWHERE) {
                return NOWHERE;
            }
            return first * LETTERS + second;
        }

        private int readLetter() {
            int character = next();
            if (character < 'A' || character > 'Z') {
                return NOWHERE;
            }
            place++;
            return character - 'A';
        }

        /** Reads digits as long as the number is not above the most; the first digit is not below the least. */
        private int readNumber(int least, int most) {
            int number = nextDigit();
            if (number < least) {
                return NOWHERE;
            }
            place++;
            for (int digits = 1; digits < LONGEST_NUMBER; digits++) {
                int digit = nextDigit();
                if (number == 0 || digit == NOWHERE || number * 10 + digit > most) {
                    return number;
                }
                number = number * 10 + digit;
                place++;
            }
            return number;
        }

        private int nextDigit() {
            int character = next();
            return character >= '0' && character <= '9' ? character - '0' : NOWHERE;
        }

        private boolean takes(char wanted) {
            if (next() != wanted) {
                return false;
            }
            place++;
            return true;
        }

        private int next() {
            return place >= 0 && place < length ? characters[place] : NOWHERE;
        }

        private boolean noteAddition(int name, int giver, int units, int mark) {
            if (additions >= MOST_ADDITIONS) {
                return false;
            }
            names[additions] = name;
            givers[additions] = giver;
            lengths[additions] = units;
            marks[additions] = mark;
            additions++;
            return true;
        }
    }
}
