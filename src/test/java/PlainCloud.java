import java.util.ArrayDeque;
import java.util.ArrayList;
import java.util.Comparator;
import java.util.Deque;
import java.util.HashMap;
import java.util.List;
import java.util.Map;

/**
 * A second writing of the document, made for the tests alone: records that never change, a grid of blocked cells
 * and a reader byte by byte, so that it shares no way of working with the class that it is held against.
 */
final class PlainCloud {
    record Place(int left, int top, int width, int height, boolean upright) {
        int column() {
            return left + width / 2;
        }

        int row() {
            return top + height / 2;
        }

        boolean sameCells(Place other) {
            return other != null && left == other.left && top == other.top
                && width == other.width && height == other.height;
        }
    }

    record Item(String letters, int weight, int direction, int group, Place place) {
        Item at(Place other) {
            return new Item(letters, weight, direction, group, other);
        }
    }

    record State(List<Item> items, int columns, int rows, int margin, int stride, int size, int moved) {
        State with(List<Item> others) {
            return new State(others, columns, rows, margin, stride, size, moved);
        }

        State on(int otherColumns, int otherRows) {
            return new State(items, otherColumns, otherRows, margin, stride, size, moved);
        }

        State ways(int otherMargin, int otherStride, int otherSize) {
            return new State(items, columns, rows, otherMargin, otherStride, otherSize, moved);
        }

        int placed() {
            return (int) items.stream().filter(item -> item.place != null).count();
        }
    }

    private static final List<int[]> SPIRAL = spiral();

    private State state = new State(List.of(), 60, 40, 0, 2, 5, 0);
    private String text = "";
    private final Deque<State> saved = new ArrayDeque<>();

    private static List<int[]> spiral() {
        List<int[]> points = new ArrayList<>();
        int[] at = {0, 0};
        points.add(at);
        int[][] ways = {{1, 0}, {0, 1}, {-1, 0}, {0, -1}};
        for (int leg = 0; points.size() < 1500; leg++) {
            for (int i = 0; i < leg / 2 + 1 && points.size() < 1500; i++) {
                at = new int[] {at[0] + ways[leg % 4][0], at[1] + ways[leg % 4][1]};
                points.add(at);
            }
        }
        return points;
    }

    private void next(State after) {
        saved.addLast(state);
        if (saved.size() > 4) {
            saved.removeFirst();
        }
        state = after;
    }

    private Item item(int word) {
        if (word < 0 || word >= state.items.size()) {
            throw new IndexOutOfBoundsException();
        }
        return state.items.get(word);
    }

    private static void index(int value, int least, int greatest) {
        if (value < least || value > greatest) {
            throw new IndexOutOfBoundsException();
        }
    }

    private static void argument(int value, int least, int greatest) {
        if (value < least || value > greatest) {
            throw new IllegalArgumentException();
        }
    }

    private void replace(int word, Item item) {
        next(replaced(word, item));
    }

    private State replaced(int word, Item item) {
        List<Item> items = new ArrayList<>(state.items);
        items.set(word, item);
        return state.with(items);
    }

    int append(int value) {
        argument(value, 0, 127);
        if (text.length() == 200) {
            throw new IllegalStateException();
        }
        text += (char) value;
        return text.length();
    }

    int clearText() {
        int length = text.length();
        text = "";
        return length;
    }

    int parse() {
        List<Item> items = new ArrayList<>();
        int error = read(items);
        if (error >= 0) {
            return -10 - error;
        }
        Map<String, Place> places = new HashMap<>();
        state.items.forEach(item -> places.put(item.letters, item.place));
        items.replaceAll(item -> item.at(places.get(item.letters)));
        next(state.with(items));
        return items.size();
    }

    /** Goes byte by byte through the parts of a word: letters, weight, direction, group, end. */
    private int read(List<Item> items) {
        String part = "letters";
        String letters = "";
        String weight = "";
        int direction = 0;
        int group = 0;
        for (int i = 0; i <= text.length(); i++) {
            int sign = i < text.length() ? text.charAt(i) : -1;
            boolean digit = sign >= '0' && sign <= '9';
            if (part.equals("weight") && !weight.isEmpty() && !digit
                && (Integer.parseInt(weight) < 1 || Integer.parseInt(weight) > 1000)) {
                return i - weight.length();
            }
            if (sign == -1) {
                return part.equals("letters") && letters.isEmpty() ? -1 : i;
            }
            switch (part) {
                case "letters" -> {
                    if (sign == ',' && !letters.isEmpty()) {
                        String told = letters;
                        if (items.stream().anyMatch(item -> item.letters.equals(told))) {
                            return i - letters.length();
                        }
                        part = "weight";
                    } else if (sign >= 'a' && sign <= 'z' && letters.length() < 10 && items.size() < 24) {
                        letters += (char) sign;
                    } else {
                        return i;
                    }
                }
                case "weight" -> {
                    if (digit && weight.length() < 4) {
                        weight += (char) sign;
                    } else if (sign == ',' && !weight.isEmpty()) {
                        part = "direction";
                    } else {
                        return i;
                    }
                }
                case "direction" -> {
                    direction = sign - '0';
                    part = "group";
                    if (direction < 0 || direction > 2) {
                        return i;
                    }
                }
                case "group" -> {
                    group = sign - '0';
                    part = "end";
                    if (group < 0 || group > 3) {
                        return i;
                    }
                }
                default -> {
                    if (sign != ';') {
                        return i;
                    }
                    items.add(new Item(letters, Integer.parseInt(weight), direction, group, null));
                    letters = "";
                    weight = "";
                    part = "letters";
                }
            }
        }
        throw new AssertionError();
    }

    int setWeight(int word, int weight) {
        Item item = item(word);
        argument(weight, 1, 1000);
        replace(word, new Item(item.letters, weight, item.direction, item.group, item.place));
        return item.weight;
    }

    int setKind(int word, int direction, int group) {
        Item item = item(word);
        argument(direction, 0, 2);
        argument(group, 0, 3);
        replace(word, new Item(item.letters, item.weight, direction, group, item.place));
        return item.direction;
    }

    int remove(int word) {
        item(word);
        List<Item> items = new ArrayList<>(state.items);
        items.remove(word);
        next(state.with(items));
        return items.size();
    }

    int setCanvas(int columns, int rows) {
        argument(columns, 10, 80);
        argument(rows, 10, 50);
        int before = state.columns;
        next(state.on(columns, rows));
        return before;
    }

    int setWays(int margin, int stride, int size) {
        argument(margin, 0, 3);
        argument(stride, 1, 4);
        argument(size, 1, 8);
        int before = state.margin;
        next(state.ways(margin, stride, size));
        return before;
    }

    private static List<Integer> ranking(State s) {
        List<Integer> words = new ArrayList<>();
        for (int i = 0; i < s.items.size(); i++) {
            words.add(i);
        }
        words.sort(Comparator.comparing(word -> -s.items.get(word).weight));
        return words;
    }

    private static int size(State s, Item item) {
        int a = s.items.stream().mapToInt(Item::weight).min().orElseThrow();
        int b = s.items.stream().mapToInt(Item::weight).max().orElseThrow();
        return a == b ? s.size : 1 + (item.weight - a) * (s.size - 1) / (b - a);
    }

    int word(int word, int what) {
        Item item = item(word);
        argument(what, 0, 5);
        return new int[] {item.letters.length(), item.weight, item.direction, item.group,
            ranking(state).indexOf(word), size(state, item)}[what];
    }

    int letter(int word, int index) {
        Item item = item(word);
        index(index, 0, item.letters.length() - 1);
        return item.letters.charAt(index) - 'a';
    }

    int value(int what) {
        argument(what, 0, 7);
        return new int[] {state.columns, state.rows, state.margin, state.stride, state.size, state.items.size(),
            state.placed(), state.moved}[what];
    }

    private static Place around(int column, int row, int letters, int size, boolean upright) {
        int width = (upright ? 2 : letters) * size;
        int height = (upright ? letters : 2) * size;
        return new Place(column - width / 2, row - height / 2, width, height, upright);
    }

    private static boolean free(boolean[][] blocked, Place place) {
        if (place.left < 0 || place.top < 0) {
            return false;
        }
        for (int column = place.left; column < place.left + place.width; column++) {
            for (int row = place.top; row < place.top + place.height; row++) {
                if (column >= blocked.length || row >= blocked[0].length || blocked[column][row]) {
                    return false;
                }
            }
        }
        return true;
    }

    private static void block(boolean[][] blocked, Place place, int margin) {
        for (int column = 0; column < blocked.length; column++) {
            for (int row = 0; row < blocked[0].length; row++) {
                blocked[column][row] |= column >= place.left - margin && row >= place.top - margin
                    && column < place.left + place.width + margin && row < place.top + place.height + margin;
            }
        }
    }

    private static Place find(State s, Item item, boolean keep, boolean[][] blocked, Place groupPlace) {
        int letters = item.letters.length();
        int size = size(s, item);
        boolean[] standings = item.direction == 2 ? new boolean[] {false, true} : new boolean[] {item.direction == 1};
        Place old = item.place;
        if (keep && old != null) {
            Place stay = around(old.column(), old.row(), letters, size, old.upright);
            boolean allowed = item.direction == 2 || old.upright == (item.direction == 1);
            if (allowed && free(blocked, stay)) {
                return stay;
            }
        }
        int column = groupPlace == null ? s.columns / 2 : groupPlace.column();
        int row = groupPlace == null ? s.rows / 2 : groupPlace.row();
        for (int[] point : SPIRAL) {
            for (boolean upright : standings) {
                Place place = around(column + point[0] * s.stride, row + point[1] * s.stride, letters, size, upright);
                if (free(blocked, place)) {
                    return place;
                }
            }
        }
        return null;
    }

    private static State laid(State s, boolean keep) {
        boolean[][] blocked = new boolean[s.columns][s.rows];
        Map<Integer, Place> groups = new HashMap<>();
        List<Item> items = new ArrayList<>(s.items);
        int moved = 0;
        for (int word : ranking(s)) {
            Item item = s.items.get(word);
            Place place = find(s, item, keep, blocked, groups.get(item.group));
            if (place != null) {
                groups.putIfAbsent(item.group, place);
                block(blocked, place, s.margin);
            }
            moved += item.place != null && !item.place.sameCells(place) ? 1 : 0;
            items.set(word, item.at(place));
        }
        return new State(items, s.columns, s.rows, s.margin, s.stride, s.size, moved);
    }

    int lay(boolean keep) {
        next(laid(state, keep));
        return state.placed();
    }

    int place(int word, int what) {
        Place place = item(word).place;
        argument(what, 0, 4);
        return place == null ? -1
            : new int[] {place.left, place.top, place.width, place.height, place.upright ? 1 : 0}[what];
    }

    private static boolean has(Place place, int column, int row) {
        return place != null && column >= place.left && column < place.left + place.width
            && row >= place.top && row < place.top + place.height;
    }

    int wordAt(int column, int row) {
        index(column, 0, 79);
        index(row, 0, 49);
        for (int word = 0; word < state.items.size(); word++) {
            if (has(state.items.get(word).place, column, row)) {
                return word;
            }
        }
        return -1;
    }

    int meetings() {
        int pairs = 0;
        for (int word = 0; word < state.items.size(); word++) {
            for (int other = 0; other < word; other++) {
                pairs += meet(state.items.get(word).place, state.items.get(other).place) ? 1 : 0;
            }
        }
        return pairs;
    }

    private static boolean meet(Place one, Place other) {
        for (int column = 0; column < 80; column++) {
            for (int row = 0; row < 50; row++) {
                if (has(one, column, row) && has(other, column, row)) {
                    return true;
                }
            }
        }
        return false;
    }

    int extent(int what) {
        argument(what, 0, 4);
        int cells = 0;
        int[] sides = {0, -1, -1, -1, -1};
        for (int column = 0; column < 80; column++) {
            for (int row = 0; row < 50; row++) {
                if (wordAt(column, row) >= 0) {
                    cells += column < state.columns && row < state.rows ? 1 : 0;
                    sides[1] = sides[1] == -1 ? column : Math.min(sides[1], column);
                    sides[2] = sides[2] == -1 ? row : Math.min(sides[2], row);
                    sides[3] = Math.max(sides[3], column);
                    sides[4] = Math.max(sides[4], row);
                }
            }
        }
        sides[0] = cells;
        return sides[what];
    }

    double covered() {
        return (double) extent(0) / (double) (state.columns * state.rows);
    }

    int spread(int group) {
        index(group, 0, 3);
        List<Place> places = state.items.stream().filter(item -> item.group == group && item.place != null)
            .map(Item::place).toList();
        int greatest = 0;
        for (Place one : places) {
            for (Place other : places) {
                int distance = Math.abs(one.column() - other.column()) + Math.abs(one.row() - other.row());
                greatest = Math.max(greatest, distance);
            }
        }
        return greatest;
    }

    int placedOn(int columns, int rows, boolean keep) {
        argument(columns, 10, 80);
        argument(rows, 10, 50);
        return laid(state.on(columns, rows), keep).placed();
    }

    int narrowest() {
        for (int columns = 10; columns <= 80; columns += 5) {
            if (laid(state.on(columns, state.rows), false).placed() == state.items.size()) {
                return columns;
            }
        }
        return -1;
    }

    int movedBy(int word, int weight) {
        Item item = item(word);
        argument(weight, 1, 1000);
        Item other = new Item(item.letters, weight, item.direction, item.group, item.place);
        return laid(replaced(word, other), true).moved;
    }

    int bestStride() {
        int best = 1;
        for (int stride = 2; stride <= 4; stride++) {
            if (placedWith(stride) > placedWith(best)) {
                best = stride;
            }
        }
        return best;
    }

    private int placedWith(int stride) {
        return laid(state.ways(state.margin, stride, state.size), false).placed();
    }

    int undo() {
        if (saved.isEmpty()) {
            throw new IllegalStateException();
        }
        state = saved.removeLast();
        return saved.size();
    }

    long digest() {
        List<Integer> values = new ArrayList<>(List.of(text.length()));
        for (int what = 0; what < 8; what++) {
            values.add(value(what));
        }
        for (int word = 0; word < state.items.size(); word++) {
            for (int what = 0; what < 6; what++) {
                values.add(word(word, what));
            }
            state.items.get(word).letters.chars().forEach(sign -> values.add(sign - 'a'));
            for (int what = 0; what < 5; what++) {
                values.add(place(word, what));
            }
        }
        values.add(meetings());
        for (int what = 0; what < 5; what++) {
            values.add(extent(what));
        }
        values.add(saved.size());
        long hash = 3329;
        for (int value : values) {
            hash = 31 * hash + value;
        }
        return hash;
    }
}
