/** A cloud of words on a grid; ../shared/DOC.md says what each call does, as numbered promises. */
public final class SpiralWords {
    public static final int NONE = -1;

    private static final int MOST_BYTES = 200;
    private static final int GREATEST_BYTE = 127;
    private static final int MOST_WORDS = 24;
    private static final int MOST_LETTERS = 10;
    private static final int MOST_DIGITS = 4;
    private static final int LEAST_WEIGHT = 1;
    private static final int GREATEST_WEIGHT = 1000;
    private static final int FLAT = 0;
    private static final int UPRIGHT = 1;
    private static final int GREATEST_DIRECTION = 2;
    private static final int GREATEST_GROUP = 3;
    private static final int LEAST_SIDE = 10;
    private static final int MOST_COLUMNS = 80;
    private static final int MOST_ROWS = 50;
    private static final int COLUMNS_APART = 5;
    private static final int GREATEST_MARGIN = 3;
    private static final int LEAST_STRIDE = 1;
    private static final int GREATEST_STRIDE = 4;
    private static final int LEAST_SIZE = 1;
    private static final int GREATEST_SIZE = 8;
    private static final int SPIRAL_POINTS = 1500;
    private static final int MOST_SAVED = 4;
    private static final int BEFORE_ERRORS = -10;
    private static final int LAST_OF_WORD = 5;
    private static final int LAST_OF_VALUE = 7;
    private static final int LAST_OF_PLACE = 4;
    private static final int LAST_OF_EXTENT = 4;
    private static final long FIRST_HASH = 3329L;
    private static final long HASH_FACTOR = 31L;

    private final Text text;
    private final Cloud cloud;
    private final Cloud trial;
    private final History history;
    private final Laying laying;
    private final boolean[] line;

    // All rows are made here once, since nothing that a call makes is ever given back.
    public SpiralWords() {
        text = new Text();
        cloud = new Cloud();
        trial = new Cloud();
        history = new History();
        laying = new Laying();
        line = new boolean[MOST_COLUMNS];
    }

    // ---- text and words

    public int append(int value) throws IllegalArgumentException, IllegalStateException {
        requireArgument(value, 0, GREATEST_BYTE);
        if (text.length >= MOST_BYTES) {
            throw new IllegalStateException("the text is full");
        }
        text.add(value);
        return text.length;
    }

    public int clearText() {
        int before = text.length;
        text.length = 0;
        return before;
    }

    public int parse() {
        int fault = text.readInto(trial);
        if (fault != NONE) {
            return BEFORE_ERRORS - fault;
        }
        trial.copySettings(cloud);
        for (int i = 0; i < trial.count; i++) {
            giveFormerPlace(trial.entries[i]);
        }
        history.save(cloud);
        cloud.copyFrom(trial);
        return cloud.count;
    }

    public int setWeight(int word, int weight) throws IndexOutOfBoundsException, IllegalArgumentException {
        requireWord(word);
        requireArgument(weight, LEAST_WEIGHT, GREATEST_WEIGHT);
        history.save(cloud);
        int before = cloud.entries[word].weight;
        cloud.entries[word].weight = weight;
        return before;
    }

    public int setKind(int word, int direction, int group) throws IndexOutOfBoundsException, IllegalArgumentException {
        requireWord(word);
        requireArgument(direction, 0, GREATEST_DIRECTION);
        requireArgument(group, 0, GREATEST_GROUP);
        history.save(cloud);
        int before = cloud.entries[word].direction;
        cloud.entries[word].direction = direction;
        cloud.entries[word].group = group;
        return before;
    }

    public int remove(int word) throws IndexOutOfBoundsException {
        requireWord(word);
        history.save(cloud);
        cloud.takeOut(word);
        return cloud.count;
    }

    public int setCanvas(int columns, int rows) throws IllegalArgumentException {
        requireArgument(columns, LEAST_SIDE, MOST_COLUMNS);
        requireArgument(rows, LEAST_SIDE, MOST_ROWS);
        history.save(cloud);
        int before = cloud.columns;
        cloud.columns = columns;
        cloud.rows = rows;
        return before;
    }

    public int setWays(int margin, int stride, int size) throws IllegalArgumentException {
        requireArgument(margin, 0, GREATEST_MARGIN);
        requireArgument(stride, LEAST_STRIDE, GREATEST_STRIDE);
        requireArgument(size, LEAST_SIZE, GREATEST_SIZE);
        history.save(cloud);
        int before = cloud.margin;
        cloud.margin = margin;
        cloud.stride = stride;
        cloud.greatestSize = size;
        return before;
    }

    public int word(int word, int what) throws IndexOutOfBoundsException, IllegalArgumentException {
        requireWord(word);
        requireArgument(what, 0, LAST_OF_WORD);
        Entry entry = cloud.entries[word];
        switch (what) {
            case 0: return entry.length;
            case 1: return entry.weight;
            case 2: return entry.direction;
            case 3: return entry.group;
            case 4: return cloud.rankOf(word);
            default: return cloud.sizeOf(entry);
        }
    }

    public int letter(int word, int index) throws IndexOutOfBoundsException {
        requireWord(word);
        requireIndex(index, cloud.entries[word].length);
        return cloud.entries[word].letters[index];
    }

    public int value(int what) throws IllegalArgumentException {
        requireArgument(what, 0, LAST_OF_VALUE);
        switch (what) {
            case 0: return cloud.columns;
            case 1: return cloud.rows;
            case 2: return cloud.margin;
            case 3: return cloud.stride;
            case 4: return cloud.greatestSize;
            case 5: return cloud.count;
            case 6: return cloud.countPlaces();
            default: return cloud.moved;
        }
    }

    // ---- laying

    public int lay(boolean keep) {
        history.save(cloud);
        return laying.layAll(cloud, keep);
    }

    public int place(int word, int what) throws IndexOutOfBoundsException, IllegalArgumentException {
        requireWord(word);
        requireArgument(what, 0, LAST_OF_PLACE);
        Box box = cloud.entries[word].box;
        if (!box.there) {
            return NONE;
        }
        switch (what) {
            case 0: return box.left;
            case 1: return box.top;
            case 2: return box.width;
            case 3: return box.height;
            default: return box.upright ? 1 : 0;
        }
    }

    public int wordAt(int column, int row) throws IndexOutOfBoundsException {
        requireIndex(column, MOST_COLUMNS);
        requireIndex(row, MOST_ROWS);
        for (int i = 0; i < cloud.count; i++) {
            Box box = cloud.entries[i].box;
            if (box.there && box.hasColumn(column) && box.hasRow(row)) {
                return i;
            }
        }
        return NONE;
    }

    public int meetings() {
        int pairs = 0;
        for (int i = 0; i < cloud.count; i++) {
            for (int j = i + 1; j < cloud.count; j++) {
                if (cloud.entries[i].box.meets(cloud.entries[j].box)) {
                    pairs++;
                }
            }
        }
        return pairs;
    }

    public int extent(int what) throws IllegalArgumentException {
        requireArgument(what, 0, LAST_OF_EXTENT);
        if (what == 0) {
            return countCoveredCells();
        }
        int outermost = NONE;
        for (int i = 0; i < cloud.count; i++) {
            Box box = cloud.entries[i].box;
            if (box.there) {
                int side = sideOf(box, what);
                outermost = outermost == NONE ? side : outerOf(outermost, side, what);
            }
        }
        return outermost;
    }

    public double covered() {
        int cells = cloud.columns * cloud.rows;
        return cells > 0 ? (double) countCoveredCells() / (double) cells : 0.0;
    }

    public int spread(int group) throws IndexOutOfBoundsException {
        requireIndex(group, GREATEST_GROUP + 1);
        int greatest = 0;
        for (int i = 0; i < cloud.count; i++) {
            for (int j = i + 1; j < cloud.count; j++) {
                Entry one = cloud.entries[i];
                Entry other = cloud.entries[j];
                if (one.standsIn(group) && other.standsIn(group)) {
                    greatest = Math.max(greatest, one.box.distanceTo(other.box));
                }
            }
        }
        return greatest;
    }

    // ---- what if

    public int placedOn(int columns, int rows, boolean keep) throws IllegalArgumentException {
        requireArgument(columns, LEAST_SIDE, MOST_COLUMNS);
        requireArgument(rows, LEAST_SIDE, MOST_ROWS);
        trial.copyFrom(cloud);
        trial.columns = columns;
        trial.rows = rows;
        return laying.layAll(trial, keep);
    }

    public int narrowest() {
        trial.copyFrom(cloud);
        for (int columns = LEAST_SIDE; columns <= MOST_COLUMNS; columns += COLUMNS_APART) {
            trial.columns = columns;
            if (laying.canLayEveryWord(trial)) {
                return columns;
            }
        }
        return NONE;
    }

    public int movedBy(int word, int weight) throws IndexOutOfBoundsException, IllegalArgumentException {
        requireWord(word);
        requireArgument(weight, LEAST_WEIGHT, GREATEST_WEIGHT);
        trial.copyFrom(cloud);
        trial.entries[word].weight = weight;
        laying.layAll(trial, true);
        return trial.moved;
    }

    public int bestStride() {
        trial.copyFrom(cloud);
        int best = LEAST_STRIDE;
        int most = NONE;
        for (int stride = LEAST_STRIDE; stride <= GREATEST_STRIDE; stride++) {
            trial.stride = stride;
            int placed = laying.layAll(trial, false);
            if (placed > most) {
                most = placed;
                best = stride;
            }
        }
        return best;
    }

    // ---- state

    public int undo() throws IllegalStateException {
        if (history.count == 0) {
            throw new IllegalStateException("there is no saved state");
        }
        history.restoreInto(cloud);
        return history.count;
    }

    public long digest() {
        long hash = hashed(FIRST_HASH, text.length);
        for (int what = 0; what <= LAST_OF_VALUE; what++) {
            hash = hashed(hash, value(what));
        }
        for (int i = 0; i < cloud.count; i++) {
            hash = hashedWord(hash, i);
        }
        hash = hashed(hash, meetings());
        for (int what = 0; what <= LAST_OF_EXTENT; what++) {
            hash = hashed(hash, extent(what));
        }
        return hashed(hash, history.count);
    }

    // ---- helpers

    private void requireWord(int word) throws IndexOutOfBoundsException {
        requireIndex(word, cloud.count);
    }

    private static void requireIndex(int index, int count) throws IndexOutOfBoundsException {
        if (index < 0 || index >= count) {
            throw new IndexOutOfBoundsException("there is no such thing");
        }
    }

    private static void requireArgument(int value, int least, int greatest) throws IllegalArgumentException {
        if (value < least || value > greatest) {
            throw new IllegalArgumentException("an argument is out of range");
        }
    }

    private void giveFormerPlace(Entry entry) {
        int before = cloud.numberOf(entry);
        if (before == NONE) {
            entry.box.there = false;
        } else {
            entry.box.copyFrom(cloud.entries[before].box);
        }
    }

    private int countCoveredCells() {
        int cells = 0;
        for (int row = 0; row < cloud.rows; row++) {
            cells += countCoveredCellsIn(row);
        }
        return cells;
    }

    private int countCoveredCellsIn(int row) {
        clearLine();
        for (int i = 0; i < cloud.count; i++) {
            Box box = cloud.entries[i].box;
            if (box.there && box.hasRow(row)) {
                markLine(box);
            }
        }
        int cells = 0;
        for (int column = 0; column < cloud.columns && column < line.length; column++) {
            cells += line[column] ? 1 : 0;
        }
        return cells;
    }

    private void clearLine() {
        for (int column = 0; column < line.length; column++) {
            line[column] = false;
        }
    }

    private void markLine(Box box) {
        for (int column = Math.max(0, box.left); column < box.right() && column < line.length; column++) {
            line[column] = true;
        }
    }

    private static int sideOf(Box box, int what) {
        switch (what) {
            case 1: return box.left;
            case 2: return box.top;
            case 3: return box.right() - 1;
            default: return box.bottom() - 1;
        }
    }

    private static int outerOf(int one, int other, int what) {
        return what <= 2 ? Math.min(one, other) : Math.max(one, other);
    }

    private static long hashed(long hash, int value) {
        return HASH_FACTOR * hash + value;
    }

    private long hashedWord(long before, int word) {
        long hash = before;
        for (int what = 0; what <= LAST_OF_WORD; what++) {
            hash = hashed(hash, word(word, what));
        }
        for (int index = 0; index < cloud.entries[word].length; index++) {
            hash = hashed(hash, letter(word, index));
        }
        for (int what = 0; what <= LAST_OF_PLACE; what++) {
            hash = hashed(hash, place(word, what));
        }
        return hash;
    }

    /** A box of cells, or none if it is not there. */
    private static final class Box {
        boolean there;
        boolean upright;
        int left;
        int top;
        int width;
        int height;

        void copyFrom(Box other) {
            there = other.there;
            upright = other.upright;
            left = other.left;
            top = other.top;
            width = other.width;
            height = other.height;
        }

        void standAround(int column, int row) {
            left = column - width / 2;
            top = row - height / 2;
        }

        /** The first column behind it. */
        int right() {
            return left + width;
        }

        /** The first row below it. */
        int bottom() {
            return top + height;
        }

        int pointColumn() {
            return left + width / 2;
        }

        int pointRow() {
            return top + height / 2;
        }

        boolean hasColumn(int column) {
            return column >= left && column < right();
        }

        boolean hasRow(int row) {
            return row >= top && row < bottom();
        }

        boolean meets(Box other) {
            return there && other.there && !isApart(other, 0);
        }

        boolean isApart(Box other, int margin) {
            return other.left - left - width >= margin || left - other.left - other.width >= margin
                || other.top - top - height >= margin || top - other.top - other.height >= margin;
        }

        boolean hasSameCells(Box other) {
            return left == other.left && top == other.top && width == other.width && height == other.height;
        }

        int distanceTo(Box other) {
            return Math.abs(pointColumn() - other.pointColumn()) + Math.abs(pointRow() - other.pointRow());
        }
    }

    /** A word with its kind and its place. */
    private static final class Entry {
        final int[] letters;
        final Box box;
        int length;
        int weight;
        int direction;
        int group;

        Entry() {
            letters = new int[MOST_LETTERS];
            box = new Box();
        }

        void copyFrom(Entry other) {
            length = other.length;
            for (int i = 0; i < length && i < MOST_LETTERS; i++) {
                letters[i] = other.letters[i];
            }
            box.copyFrom(other.box);
            weight = other.weight;
            direction = other.direction;
            group = other.group;
        }

        boolean hasSameLetters(Entry other) {
            if (length != other.length) {
                return false;
            }
            for (int i = 0; i < length && i < MOST_LETTERS; i++) {
                if (letters[i] != other.letters[i]) {
                    return false;
                }
            }
            return true;
        }

        boolean allows(boolean upright) {
            return upright ? direction != FLAT : direction != UPRIGHT;
        }

        boolean standsIn(int wanted) {
            return box.there && group == wanted;
        }
    }

    /** All that undo brings back: the words, their places, the canvas and the ways. */
    private static final class Cloud {
        final Entry[] entries;
        int count;
        int columns;
        int rows;
        int margin;
        int stride;
        int greatestSize;
        int moved;

        Cloud() {
            entries = new Entry[MOST_WORDS];
            for (int i = 0; i < MOST_WORDS; i++) {
                entries[i] = new Entry();
            }
            columns = 60;
            rows = 40;
            stride = 2;
            greatestSize = 5;
        }

        void copyFrom(Cloud other) {
            copySettings(other);
            count = other.count;
            for (int i = 0; i < count; i++) {
                entries[i].copyFrom(other.entries[i]);
            }
        }

        void copySettings(Cloud other) {
            columns = other.columns;
            rows = other.rows;
            margin = other.margin;
            stride = other.stride;
            greatestSize = other.greatestSize;
            moved = other.moved;
        }

        void takeOut(int word) {
            Entry out = entries[word];
            for (int i = word + 1; i < count; i++) {
                entries[i - 1] = entries[i];
            }
            count--;
            entries[count] = out;
        }

        /** The number of the word with the same letters, or NONE. */
        int numberOf(Entry entry) {
            for (int i = 0; i < count; i++) {
                if (entries[i].hasSameLetters(entry)) {
                    return i;
                }
            }
            return NONE;
        }

        int countPlaces() {
            int places = 0;
            for (int i = 0; i < count; i++) {
                places += entries[i].box.there ? 1 : 0;
            }
            return places;
        }

        int rankOf(int word) {
            int weight = entries[word].weight;
            int rank = 0;
            for (int i = 0; i < count; i++) {
                if (entries[i].weight > weight || entries[i].weight == weight && i < word) {
                    rank++;
                }
            }
            return rank;
        }

        int sizeOf(Entry entry) {
            int least = GREATEST_WEIGHT;
            int greatest = LEAST_WEIGHT;
            for (int i = 0; i < count; i++) {
                least = Math.min(least, entries[i].weight);
                greatest = Math.max(greatest, entries[i].weight);
            }
            if (least >= greatest) {
                return greatestSize;
            }
            return 1 + (entry.weight - least) * (greatestSize - 1) / (greatest - least);
        }
    }

    /** The states that undo can bring back, the oldest first. */
    private static final class History {
        private final Cloud[] saved;
        int count;

        History() {
            saved = new Cloud[MOST_SAVED];
            for (int i = 0; i < MOST_SAVED; i++) {
                saved[i] = new Cloud();
            }
        }

        void save(Cloud cloud) {
            if (count >= MOST_SAVED) {
                dropOldest();
            }
            saved[count].copyFrom(cloud);
            count++;
        }

        // The dropped cloud goes behind the others, to be filled again.
        private void dropOldest() {
            Cloud oldest = saved[0];
            for (int i = 1; i < MOST_SAVED; i++) {
                saved[i - 1] = saved[i];
            }
            saved[MOST_SAVED - 1] = oldest;
            count = MOST_SAVED - 1;
        }

        void restoreInto(Cloud cloud) {
            if (count > 0) {
                count--;
                cloud.copyFrom(saved[count]);
            }
        }
    }

    /** The points of a spiral, one after the other. */
    private static final class Spiral {
        int column;
        int row;
        private int columnStep;
        private int rowStep;
        private int legLength;
        private int legRest;
        private boolean second;

        void begin(int firstColumn, int firstRow, int stride) {
            column = firstColumn;
            row = firstRow;
            columnStep = stride;
            rowStep = 0;
            legLength = 1;
            legRest = 1;
            second = false;
        }

        void goOn() {
            column += columnStep;
            row += rowStep;
            legRest--;
            if (legRest == 0) {
                turn();
            }
        }

        // Right, down, left, up; every second leg makes the next ones longer.
        private void turn() {
            int formerColumnStep = columnStep;
            columnStep = -rowStep;
            rowStep = formerColumnStep;
            if (second) {
                legLength++;
            }
            second = !second;
            legRest = legLength;
        }
    }

    /** Gives the words of a cloud their places, by their ranks. */
    private static final class Laying {
        private final int[] order;
        private final int[] placed;
        private final Box candidate;
        private final Spiral spiral;
        private int placedCount;
        private int lastInTheWay;

        Laying() {
            order = new int[MOST_WORDS];
            placed = new int[MOST_WORDS];
            candidate = new Box();
            spiral = new Spiral();
        }

        /** Lays all words; returns how many have a place. */
        int layAll(Cloud cloud, boolean keep) {
            begin(cloud);
            for (int rank = 0; rank < cloud.count; rank++) {
                layWord(cloud, order[rank], keep);
            }
            return placedCount;
        }

        /** Lays words without keeping places until one is left out; returns whether none was. */
        boolean canLayEveryWord(Cloud cloud) {
            begin(cloud);
            for (int rank = 0; rank < cloud.count; rank++) {
                if (!layWord(cloud, order[rank], false)) {
                    return false;
                }
            }
            return true;
        }

        private void begin(Cloud cloud) {
            placedCount = 0;
            cloud.moved = 0;
            candidate.there = true;
            for (int word = 0; word < cloud.count; word++) {
                order[cloud.rankOf(word)] = word;
            }
        }

        private boolean layWord(Cloud cloud, int word, boolean keep) {
            Entry entry = cloud.entries[word];
            Box box = entry.box;
            int size = cloud.sizeOf(entry);
            boolean found = keep && canStay(cloud, entry, size) || findOnSpiral(cloud, entry, size);
            if (box.there && !(found && box.hasSameCells(candidate))) {
                cloud.moved++;
            }
            if (found) {
                box.copyFrom(candidate);
                placed[placedCount] = word;
                placedCount++;
            } else {
                box.there = false;
            }
            return found;
        }

        private boolean canStay(Cloud cloud, Entry entry, int size) {
            Box box = entry.box;
            if (!box.there || !entry.allows(box.upright)) {
                return false;
            }
            measure(entry, size, box.upright);
            candidate.standAround(box.pointColumn(), box.pointRow());
            return isPossible(cloud);
        }

        private boolean findOnSpiral(Cloud cloud, Entry entry, int size) {
            beginSpiral(cloud, entry.group);
            for (int point = 0; point < SPIRAL_POINTS; point++) {
                if (standsAtPoint(cloud, entry, size, false) || standsAtPoint(cloud, entry, size, true)) {
                    return true;
                }
                spiral.goOn();
            }
            return false;
        }

        private void beginSpiral(Cloud cloud, int group) {
            for (int i = 0; i < placedCount; i++) {
                Entry entry = cloud.entries[placed[i]];
                if (entry.group == group) {
                    spiral.begin(entry.box.pointColumn(), entry.box.pointRow(), cloud.stride);
                    return;
                }
            }
            spiral.begin(cloud.columns / 2, cloud.rows / 2, cloud.stride);
        }

        private boolean standsAtPoint(Cloud cloud, Entry entry, int size, boolean upright) {
            if (!entry.allows(upright)) {
                return false;
            }
            measure(entry, size, upright);
            candidate.standAround(spiral.column, spiral.row);
            return isPossible(cloud);
        }

        private void measure(Entry entry, int size, boolean upright) {
            candidate.upright = upright;
            candidate.width = (upright ? 2 : entry.length) * size;
            candidate.height = (upright ? entry.length : 2) * size;
        }

        // The box that was in the way of the last candidate is most often in the way of the next one, too.
        private boolean isPossible(Cloud cloud) {
            if (candidate.left < 0 || candidate.right() > cloud.columns
                || candidate.top < 0 || candidate.bottom() > cloud.rows) {
                return false;
            }
            Entry[] entries = cloud.entries;
            if (lastInTheWay < placedCount && !candidate.isApart(entries[placed[lastInTheWay]].box, cloud.margin)) {
                return false;
            }
            for (int i = 0; i < placedCount; i++) {
                if (!candidate.isApart(entries[placed[i]].box, cloud.margin)) {
                    lastInTheWay = i;
                    return false;
                }
            }
            return true;
        }
    }

    /** The word text, and its reader. */
    private static final class Text {
        private final int[] bytes;
        int length;
        private int position;
        private int fault;

        Text() {
            bytes = new int[MOST_BYTES];
        }

        void add(int value) {
            if (length < MOST_BYTES) {
                bytes[length] = value;
                length++;
            }
        }

        /** Makes the draft's words those of the text; returns the syntax error position, or NONE. */
        int readInto(Cloud draft) {
            position = 0;
            fault = NONE;
            draft.count = 0;
            for (int i = 0; i <= MOST_WORDS && position < length && fault == NONE; i++) {
                readWord(draft);
            }
            return fault;
        }

        private void readWord(Cloud draft) {
            if (draft.count >= MOST_WORDS) {
                fault = position;
                return;
            }
            Entry entry = draft.entries[draft.count];
            readLetters(draft, entry);
            if (fault == NONE) {
                readWeight(entry);
            }
            if (fault == NONE) {
                entry.direction = readDigit(GREATEST_DIRECTION);
            }
            if (fault == NONE) {
                entry.group = readDigit(GREATEST_GROUP);
            }
            if (fault == NONE) {
                readSign(';');
            }
            if (fault == NONE) {
                draft.count++;
            }
        }

        private void readLetters(Cloud draft, Entry entry) {
            int first = position;
            entry.length = 0;
            while (entry.length < MOST_LETTERS && isBetween('a', 'z')) {
                entry.letters[entry.length] = bytes[position] - 'a';
                entry.length++;
                position++;
            }
            if (entry.length == 0 || !isBetween(',', ',')) {
                fault = position;
            } else if (draft.numberOf(entry) != NONE) {
                fault = first;
            } else {
                position++;
            }
        }

        private void readWeight(Entry entry) {
            int first = position;
            entry.weight = 0;
            while (position - first < MOST_DIGITS && isBetween('0', '9')) {
                entry.weight = entry.weight * 10 + bytes[position] - '0';
                position++;
            }
            if (position == first || isBetween('0', '9')) {
                fault = position;
            } else if (entry.weight < LEAST_WEIGHT || entry.weight > GREATEST_WEIGHT) {
                fault = first;
            } else {
                readSign(',');
            }
        }

        private int readDigit(int greatest) {
            if (!isBetween('0', '0' + greatest)) {
                fault = position;
                return 0;
            }
            int digit = bytes[position] - '0';
            position++;
            return digit;
        }

        private void readSign(int sign) {
            if (isBetween(sign, sign)) {
                position++;
            } else {
                fault = position;
            }
        }

        private boolean isBetween(int least, int greatest) {
            return position < length && bytes[position] >= least && bytes[position] <= greatest;
        }
    }
}
