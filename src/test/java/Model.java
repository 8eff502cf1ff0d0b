import java.util.ArrayDeque;
import java.util.ArrayList;
import java.util.Deque;
import java.util.HashMap;
import java.util.HashSet;
import java.util.List;
import java.util.Map;
import java.util.Set;
import java.util.TreeMap;
import java.util.regex.Matcher;
import java.util.regex.Pattern;

/** The document told a second time, with texts that are objects, kept when they are dead, too. */
final class Model {
    private static final String ADDITION =
        "[A-Z][A-Z](?:=(?:[1-9]|[1-3][0-9]|40)(?:,(?:0|[1-9][0-9]{0,3}))?|>[A-Z][A-Z])";
    private static final Pattern ADDITIONS = Pattern.compile(ADDITION + "(?:;" + ADDITION + ")*");

    private static final class Text {
        int start;
        int length;
        int mark;
    }

    private static final class Entry {
        Text text;
        Integer member;
    }

    private static final class State {
        TreeMap<Integer, Entry> entries = new TreeMap<>();
        List<Text> room = new ArrayList<>();
        int blocks = 2;
        int squeezings = 0;
        int givenBack = 0;

        State copy() {
            State copy = new State();
            Map<Text, Text> texts = new HashMap<>();
            for (Text text : room) {
                Text other = new Text();
                other.start = text.start;
                other.length = text.length;
                other.mark = text.mark;
                texts.put(text, other);
                copy.room.add(other);
            }
            entries.forEach((name, entry) -> {
                Entry other = new Entry();
                other.text = texts.get(entry.text);
                other.member = entry.member;
                copy.entries.put(name, other);
            });
            copy.blocks = blocks;
            copy.squeezings = squeezings;
            copy.givenBack = givenBack;
            return copy;
        }

        int end() {
            return room.isEmpty() ? 0 : room.get(room.size() - 1).start + room.get(room.size() - 1).length;
        }

        Set<Text> living() {
            Set<Text> living = new HashSet<>();
            entries.values().forEach(entry -> living.add(entry.text));
            return living;
        }

        int livingUnits() {
            return living().stream().mapToInt(text -> text.length).sum();
        }

        boolean isLost(Entry entry) {
            if (entry.member == null) {
                return false;
            }
            Entry member = entries.get(entry.member);
            return member == null || member.member != null || member.text != entry.text;
        }

        int squeeze() {
            int before = end();
            Set<Text> living = living();
            room.removeIf(text -> !living.contains(text));
            int start = 0;
            for (Text text : room) {
                text.start = start;
                start += text.length;
            }
            squeezings++;
            givenBack += before - start;
            return before - start;
        }

        Text lay(int length, int mark) {
            Text text = new Text();
            text.start = end();
            text.length = length;
            text.mark = mark;
            room.add(text);
            return text;
        }

        int add(int name, int length, int mark) {
            if (name < 0 || name > 675 || length < 1 || length > 40 || mark < 0 || mark > 9999) return -2;
            if (entries.containsKey(name)) return -7;
            if (entries.size() == blocks * 4) return -6;
            if (end() + length > 100) return -3;
            Entry entry = new Entry();
            entry.text = lay(length, mark);
            entries.put(name, entry);
            return entry.text.start;
        }

        int replace(int name, int length, int mark) {
            Entry entry = entries.get(name);
            if (entry == null || entry.member != null) return -1;
            if (length < 1 || length > 40 || mark < 0 || mark > 9999) return -2;
            if (end() + length > 100) return -3;
            entry.text = lay(length, mark);
            return entry.text.start;
        }

        int rename(int name, int next) {
            Entry entry = entries.get(name);
            if (entry == null) return -1;
            if (next < 0 || next > 675) return -2;
            if (name == next) return -5;
            if (entries.containsKey(next)) return -7;
            entries.remove(name);
            entries.put(next, entry);
            if (entry.member == null) {
                for (Entry other : entries.values()) {
                    if (other.member != null && other.member == name) other.member = next;
                }
            }
            return entries.headMap(next).size();
        }

        int alias(int alias, int name) {
            Entry member = entries.get(name);
            if (member == null || member.member != null) return -1;
            if (alias < 0 || alias > 675) return -2;
            Entry entry = entries.get(alias);
            if (entry != null && entry.member == null) return -7;
            if (entry == null && entries.size() == blocks * 4) return -6;
            if (entry != null && entry.text == member.text && entry.member == name) return -5;
            if (entry == null) {
                entry = new Entry();
                entries.put(alias, entry);
            }
            entry.text = member.text;
            entry.member = name;
            return entry.text.start;
        }
    }

    private State now = new State();
    private State snapshot = null;
    private final Deque<State> history = new ArrayDeque<>();
    private final StringBuilder pad = new StringBuilder();

    private int act(State then, int answer) {
        if (answer >= 0) {
            history.addLast(now);
            if (history.size() > 4) history.removeFirst();
            now = then;
        }
        return answer;
    }

    int add(int name, int length, int mark) {
        State then = now.copy();
        return act(then, then.add(name, length, mark));
    }

    int replace(int name, int length, int mark) {
        State then = now.copy();
        return act(then, then.replace(name, length, mark));
    }

    int remove(int name) {
        State then = now.copy();
        return act(then, then.entries.remove(name) == null ? -1 : then.entries.size());
    }

    int rename(int name, int next) {
        State then = now.copy();
        return act(then, then.rename(name, next));
    }

    int alias(int alias, int member) {
        State then = now.copy();
        return act(then, then.alias(alias, member));
    }

    private int fault() {
        Matcher matcher = ADDITIONS.matcher(pad);
        if (matcher.matches()) return -1;
        for (int place = 0; place < pad.length(); place++) {
            matcher = ADDITIONS.matcher(pad.substring(0, place + 1));
            if (!matcher.matches() && !matcher.hitEnd()) return place;
        }
        return pad.length();
    }

    int addAll() {
        int fault = fault();
        if (fault >= 0) return -100 - fault;
        State then = now.copy();
        String[] additions = pad.toString().split(";");
        for (String addition : additions) {
            int name = Due.name(addition);
            int answer;
            if (addition.charAt(2) == '>') {
                answer = then.alias(name, Due.name(addition.substring(3)));
            } else {
                String[] numbers = addition.substring(3).split(",");
                answer = then.add(name, Integer.parseInt(numbers[0]),
                    numbers.length == 1 ? 0 : Integer.parseInt(numbers[1]));
            }
            if (answer < 0 && answer != -5) return answer;
        }
        return act(then, additions.length);
    }

    int squeeze() {
        if (now.living().size() == now.room.size()) return -5;
        State then = now.copy();
        return act(then, then.squeeze());
    }

    int makeAnew(int blocks) {
        if (blocks < 1 || blocks > 6) return -2;
        if (now.entries.size() > 4 * blocks) return -6;
        if (blocks == now.blocks) return -5;
        State then = now.copy();
        then.blocks = blocks;
        then.squeeze();
        return act(then, now.blocks);
    }

    int type(char character) {
        if (pad.length() == 60) return -3;
        pad.append(character);
        return pad.length();
    }

    int clearPad() {
        int length = pad.length();
        pad.setLength(0);
        return length;
    }

    int undo() {
        if (history.isEmpty()) return -5;
        now = history.removeLast();
        return history.size();
    }

    int keep() {
        snapshot = now.copy();
        return now.entries.size();
    }

    int restore() {
        return snapshot == null ? -5 : act(snapshot.copy(), snapshot.entries.size());
    }

    int entry(int name, int what) {
        Entry entry = now.entries.get(name);
        if (entry == null) return -1;
        int rank = now.entries.headMap(name).size();
        return switch (what) {
            case 0 -> rank;
            case 1 -> rank / 4;
            case 2 -> entry.member == null ? 0 : 1;
            case 3 -> entry.text.start;
            case 4 -> entry.text.length;
            case 5 -> entry.text.mark;
            case 6 -> (int) now.entries.values().stream()
                .filter(other -> other.member != null && other.text == entry.text).count();
            case 7 -> entry.member == null ? -5 : entry.member;
            case 8 -> now.isLost(entry) ? 1 : 0;
            default -> -2;
        };
    }

    private int listed(List<Integer> names, long rank) {
        return rank < names.size() ? names.get((int) rank) : -5;
    }

    int named(int rank) {
        return rank < 0 ? -2 : listed(new ArrayList<>(now.entries.keySet()), rank);
    }

    int block(int block, int what) {
        if (block < 0 || block >= now.blocks) return -1;
        List<Integer> names = new ArrayList<>(now.entries.keySet());
        names = names.subList(Math.min(names.size(), 4 * block), Math.min(names.size(), 4 * block + 4));
        return switch (what) {
            case 0 -> names.size();
            case 1 -> names.isEmpty() ? -5 : names.get(0);
            case 2 -> names.isEmpty() ? -5 : names.get(names.size() - 1);
            default -> -2;
        };
    }

    int at(int unit) {
        if (unit < 0 || unit > 99) return -1;
        for (Text text : now.room) {
            if (text.start <= unit && unit < text.start + text.length) {
                for (Map.Entry<Integer, Entry> entry : now.entries.entrySet()) {
                    if (entry.getValue().text == text) return entry.getKey();
                }
                return 1000;
            }
        }
        return -5;
    }

    int fits(int length) {
        if (length < 1 || length > 40) return -2;
        if (now.end() + length <= 100) return 0;
        return now.livingUnits() + length <= 100 ? 1 : 2;
    }

    int beginning(int letter, int rank) {
        if (letter < 0 || letter > 25 || rank < 0) return -2;
        return listed(new ArrayList<>(now.entries.subMap(26 * letter, 26 * letter + 26).keySet()), rank);
    }

    int count(int what) {
        int aliases = (int) now.entries.values().stream().filter(entry -> entry.member != null).count();
        return switch (what) {
            case 0 -> now.entries.size();
            case 1 -> now.entries.size() - aliases;
            case 2 -> aliases;
            case 3 -> (int) now.entries.values().stream().filter(now::isLost).count();
            case 4 -> now.blocks;
            case 5 -> 4 * now.blocks - now.entries.size();
            case 6 -> now.end();
            case 7 -> now.livingUnits();
            case 8 -> now.end() - now.livingUnits();
            case 9 -> 100 - now.end();
            case 10 -> now.living().size();
            case 11 -> now.squeezings;
            case 12 -> now.givenBack;
            case 13 -> history.size();
            case 14 -> pad.length();
            default -> -2;
        };
    }
}
