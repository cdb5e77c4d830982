import java.util.NoSuchElementException;

/** A flexible box layout engine in whole pixels; the document says what each call does. */
public final class FlexLayout {
    public static final int AUTO = -1;

    private static final int MAX_ITEMS = 20;
    private static final int MAX_SIZE = 9999;
    private static final int MAX_GAP = 99;
    private static final int MAX_PIXELS = 99999;
    private static final int MAX_LETTERS = 80;
    // 2 to the power of this is above the number of main sizes.
    private static final int MAX_HALVINGS = 14;

    private static final int DIRECTION = 0;
    private static final int WRAP = 1;
    private static final int JUSTIFY = 2;
    private static final int ALIGN_ITEMS = 3;
    private static final int CONTENT = 4;
    private static final int SETTINGS = 5;
    private static final int[] HIGHEST_SETTING = {3, 2, 5, 4, 6};

    private static final int BASIS = 0;
    private static final int GROW = 1;
    private static final int SHRINK = 2;
    private static final int MINIMUM = 3;
    private static final int MAXIMUM = 4;
    private static final int CROSS = 5;
    private static final int ASCENT = 6;
    private static final int ALIGN = 7;
    private static final int ORDER = 8;
    private static final int STRETCHABLE = 9;
    private static final int PROPERTIES = 10;
    private static final int[] LOWEST = {0, 0, 0, 0, -1, 0, 0, -1, -9, 0};
    private static final int[] HIGHEST = {9999, 99, 99, 9999, 9999, 9999, 9999, 4, 9, 1};
    private static final int[] FIRST = {0, 0, 1, 0, -1, 0, 0, -1, 0, 1};
    private static final char[] LETTERS = {'b', 'g', 's', 'm', 'x', 'c', 'a', 'l', 'o', 't'};

    private static final int ALIGN_STRETCH = 0;
    private static final int ALIGN_END = 2;
    private static final int ALIGN_CENTER = 3;
    private static final int ALIGN_BASELINE = 4;

    private static final int SPREAD_START = 0;
    private static final int SPREAD_END = 1;
    private static final int SPREAD_CENTER = 2;
    private static final int SPREAD_BETWEEN = 3;
    private static final int SPREAD_AROUND = 4;
    private static final int SPREAD_EVENLY = 5;

    private static final int WRAP_OFF = 0;
    private static final int WRAP_REVERSED = 2;
    private static final int CONTENT_STRETCH = 0;

    private static final int NO_ERROR = -1;

    private final Container container = new Container();
    private final Container kept = new Container();
    private boolean isKept = false;
    private final ItemText text = new ItemText();
    private final Division division = new Division();
    private final Arrangement arrangement = new Arrangement();
    private final MainAxis mainAxis = new MainAxis();
    private final CrossAxis crossAxis = new CrossAxis();

    public FlexLayout() {
    }

    public int setMainSize(int size) throws IllegalArgumentException {
        if (!isWithin(size, 0, MAX_SIZE)) {
            throw new IllegalArgumentException("no such main size");
        }
        int previous = container.mainSize;
        container.mainSize = size;
        return previous;
    }

    public int setCrossSize(int size) throws IllegalArgumentException {
        if (size != AUTO && !isWithin(size, 0, MAX_SIZE)) {
            throw new IllegalArgumentException("no such cross size");
        }
        int previous = container.crossSize;
        container.crossSize = size;
        return previous;
    }

    public int setGaps(int main, int cross) throws IllegalArgumentException {
        if (!isWithin(main, 0, MAX_GAP) || !isWithin(cross, 0, MAX_GAP)) {
            throw new IllegalArgumentException("no such gap");
        }
        int previous = 100 * container.mainGap + container.crossGap;
        container.mainGap = main;
        container.crossGap = cross;
        return previous;
    }

    public int setSetting(int setting, int value) throws IndexOutOfBoundsException, IllegalArgumentException {
        if (!isWithin(setting, 0, SETTINGS - 1)) {
            throw new IndexOutOfBoundsException("no such setting");
        }
        if (!isWithin(value, 0, HIGHEST_SETTING[setting])) {
            throw new IllegalArgumentException("no such value of the setting");
        }
        int previous = container.settings[setting];
        container.settings[setting] = value;
        return previous;
    }

    public int addItem(int basis, int cross) throws IllegalArgumentException, IllegalStateException {
        if (!canHave(BASIS, basis) || !canHave(CROSS, cross)) {
            throw new IllegalArgumentException("no such size");
        }
        requireRoom();
        int[] row = container.freshRow();
        row[BASIS] = basis;
        row[CROSS] = cross;
        return container.takeFreshRow();
    }

    public int removeItem(int item) throws IndexOutOfBoundsException {
        requireItem(item);
        container.dropRow(item);
        return container.count;
    }

    public int items() {
        return container.count;
    }

    public int setProperty(int item, int property, int value)
            throws IndexOutOfBoundsException, IllegalArgumentException {
        requireItem(item);
        requireProperty(property);
        if (!canHave(property, value)) {
            throw new IllegalArgumentException("no such value of the property");
        }
        int previous = container.rows[item][property];
        container.rows[item][property] = value;
        return previous;
    }

    public int property(int item, int property) throws IndexOutOfBoundsException {
        requireItem(item);
        requireProperty(property);
        return container.rows[item][property];
    }

    public int feed(char letter) throws IllegalStateException {
        if (text.length >= MAX_LETTERS) {
            throw new IllegalStateException("the buffer is full");
        }
        text.letters[text.length] = letter;
        text.length++;
        return text.length;
    }

    public int readItem() throws IllegalStateException {
        requireRoom();
        int error = text.syntaxError();
        if (error == NO_ERROR) {
            error = text.readInto(container.freshRow());
        }
        text.length = 0;
        return error == NO_ERROR ? container.takeFreshRow() : -100 - error;
    }

    public int lines() {
        arrangement.arrange(container);
        return arrangement.lineCount;
    }

    public int lineOf(int item) throws IndexOutOfBoundsException {
        requireItem(item);
        arrangement.arrange(container);
        return arrangement.lineWith(item);
    }

    public int itemAt(int place) throws IndexOutOfBoundsException {
        if (!isWithin(place, 0, container.count - 1)) {
            throw new IndexOutOfBoundsException("no such place");
        }
        arrangement.putInSequence(container);
        return arrangement.sequence[place];
    }

    public int hypotheticalSize(int item) throws IndexOutOfBoundsException {
        requireItem(item);
        return container.hypothetical(item);
    }

    public int box(int item, int what) throws IndexOutOfBoundsException {
        requireItem(item);
        if (!isWithin(what, 0, 3)) {
            throw new IndexOutOfBoundsException("no such coordinate");
        }
        layOut();
        boolean isHorizontal = what == 0 || what == 2;
        boolean isOnMainAxis = isHorizontal == container.hasHorizontalMainAxis();
        if (what < 2) {
            return isOnMainAxis ? mainAxis.positions[item] : crossAxis.positions[item];
        }
        return isOnMainAxis ? mainAxis.sizes[item] : crossAxis.sizes[item];
    }

    public int rounds(int line) throws IndexOutOfBoundsException {
        arrangement.arrange(container);
        requireLine(line);
        mainAxis.layOut(container, arrangement, division);
        return mainAxis.roundCounts[line];
    }

    public int freeSpace(int line) throws IndexOutOfBoundsException {
        arrangement.arrange(container);
        requireLine(line);
        mainAxis.layOut(container, arrangement, division);
        return mainAxis.freeSpaces[line];
    }

    public int lineCross(int line) throws IndexOutOfBoundsException {
        arrangement.arrange(container);
        requireLine(line);
        crossAxis.layOut(container, arrangement, division);
        return crossAxis.lineSizes[line];
    }

    public int lineAscent(int line) throws IndexOutOfBoundsException {
        arrangement.arrange(container);
        requireLine(line);
        crossAxis.layOut(container, arrangement, division);
        return crossAxis.lineAscents[line];
    }

    public int crossExtent() {
        arrangement.arrange(container);
        crossAxis.layOut(container, arrangement, division);
        return crossAxis.extent;
    }

    public boolean overflows(int item) throws IndexOutOfBoundsException {
        requireItem(item);
        layOut();
        int main = mainAxis.positions[item];
        int cross = crossAxis.positions[item];
        return main < 0 || main + mainAxis.sizes[item] > container.mainSize
                || cross < 0 || cross + crossAxis.sizes[item] > crossAxis.extent;
    }

    public int itemUnder(int x, int y) throws NoSuchElementException {
        layOut();
        int main = container.hasHorizontalMainAxis() ? x : y;
        int cross = container.hasHorizontalMainAxis() ? y : x;
        for (int place = container.count - 1; place >= 0; place--) {
            int item = arrangement.sequence[place];
            if (contains(item, main, cross)) {
                return item;
            }
        }
        throw new NoSuchElementException("no item at this point");
    }

    public int overlaps() {
        layOut();
        int pairs = 0;
        for (int second = 1; second < container.count; second++) {
            for (int first = 0; first < second; first++) {
                if (haveCommonPoint(first, second)) {
                    pairs++;
                }
            }
        }
        return pairs;
    }

    public int narrowest(int count) throws IllegalArgumentException, NoSuchElementException {
        if (!isWithin(count, 1, MAX_ITEMS)) {
            throw new IllegalArgumentException("no such number of lines");
        }
        arrangement.putInSequence(container);
        if (arrangement.fillLines(container, MAX_SIZE) > count) {
            throw new NoSuchElementException("no main size is wide enough");
        }
        // A greater main size never needs more lines, so the border can be found by halving.
        int low = 0;
        int high = MAX_SIZE;
        for (int halving = 0; halving < MAX_HALVINGS && low < high; halving++) {
            int middle = (low + high) / 2;
            if (arrangement.fillLines(container, middle) > count) {
                low = middle + 1;
            } else {
                high = middle;
            }
        }
        return low;
    }

    public int share(int pixels, int property, int item)
            throws IllegalArgumentException, IndexOutOfBoundsException, ArithmeticException {
        if (!isWithin(pixels, 0, MAX_PIXELS) || !canBeWeight(property)) {
            throw new IllegalArgumentException("no such number of pixels or weight");
        }
        requireItem(item);
        for (int party = 0; party < container.count; party++) {
            division.weights[party] = container.rows[party][property];
        }
        if (division.weightSum(container.count) == 0) {
            throw new ArithmeticException("all weights are 0");
        }
        division.divide(pixels, container.count);
        return division.shares[item];
    }

    public int save() {
        kept.copyFrom(container);
        isKept = true;
        return kept.count;
    }

    public int restore() throws IllegalStateException {
        if (!isKept) {
            throw new IllegalStateException("nothing was saved");
        }
        container.copyFrom(kept);
        return container.count;
    }

    private void requireRoom() {
        if (container.count >= MAX_ITEMS) {
            throw new IllegalStateException("there are 20 items");
        }
    }

    private void requireItem(int item) {
        if (!isWithin(item, 0, container.count - 1)) {
            throw new IndexOutOfBoundsException("no such item");
        }
    }

    private void requireLine(int line) {
        if (!isWithin(line, 0, arrangement.lineCount - 1)) {
            throw new IndexOutOfBoundsException("no such line");
        }
    }

    private static void requireProperty(int property) {
        if (!isWithin(property, 0, PROPERTIES - 1)) {
            throw new IndexOutOfBoundsException("no such property");
        }
    }

    private void layOut() {
        arrangement.arrange(container);
        mainAxis.layOut(container, arrangement, division);
        crossAxis.layOut(container, arrangement, division);
    }

    private boolean contains(int item, int main, int cross) {
        int mainStart = mainAxis.positions[item];
        int crossStart = crossAxis.positions[item];
        return main >= mainStart && main < mainStart + mainAxis.sizes[item]
                && cross >= crossStart && cross < crossStart + crossAxis.sizes[item];
    }

    private boolean haveCommonPoint(int first, int second) {
        return meet(mainAxis.positions, mainAxis.sizes, first, second)
                && meet(crossAxis.positions, crossAxis.sizes, first, second);
    }

    private static boolean meet(int[] positions, int[] sizes, int first, int second) {
        int start = Math.max(positions[first], positions[second]);
        int end = Math.min(positions[first] + sizes[first], positions[second] + sizes[second]);
        return start < end;
    }

    private static boolean isWithin(int value, int low, int high) {
        return value >= low && value <= high;
    }

    private static boolean canHave(int property, int value) {
        return isWithin(property, 0, PROPERTIES - 1) && isWithin(value, LOWEST[property], HIGHEST[property]);
    }

    private static boolean canBeWeight(int property) {
        return isWithin(property, BASIS, MINIMUM) || property == CROSS;
    }

    /** The offset of a party, with the numbers of justify as the ways to spread the free space. */
    private static int offset(int spread, int free, int party, int parties) {
        int way = spread;
        if (free < 0 && spread == SPREAD_BETWEEN) {
            way = SPREAD_START;
        }
        if (free < 0 && spread > SPREAD_BETWEEN) {
            way = SPREAD_CENTER;
        }
        switch (way) {
            case SPREAD_END:
                return free;
            case SPREAD_CENTER:
                return Math.floorDiv(free, 2);
            case SPREAD_BETWEEN:
                return parties > 1 ? free * party / (parties - 1) : 0;
            case SPREAD_AROUND:
                return parties > 0 ? free * (2 * party + 1) / (2 * parties) : 0;
            case SPREAD_EVENLY:
                return parties > 0 ? free * (party + 1) / (parties + 1) : 0;
            default:
                return 0;
        }
    }

    /** What save keeps: the container and its items, a row of properties each. */
    private static final class Container {
        int mainSize = 100;
        int crossSize = AUTO;
        int mainGap = 0;
        int crossGap = 0;
        final int[] settings = new int[SETTINGS];
        final int[][] rows = new int[MAX_ITEMS][PROPERTIES];
        int count = 0;

        void copyFrom(Container other) {
            mainSize = other.mainSize;
            crossSize = other.crossSize;
            mainGap = other.mainGap;
            crossGap = other.crossGap;
            count = other.count;
            System.arraycopy(other.settings, 0, settings, 0, SETTINGS);
            for (int item = 0; item < MAX_ITEMS; item++) {
                System.arraycopy(other.rows[item], 0, rows[item], 0, PROPERTIES);
            }
        }

        /** The first row that no item has, with the first values; the caller has seen that there is room. */
        int[] freshRow() {
            int[] row = rows[Math.min(count, MAX_ITEMS - 1)];
            System.arraycopy(FIRST, 0, row, 0, PROPERTIES);
            return row;
        }

        int takeFreshRow() {
            count++;
            return count - 1;
        }

        void dropRow(int item) {
            for (int next = item + 1; next < count; next++) {
                System.arraycopy(rows[next], 0, rows[next - 1], 0, PROPERTIES);
            }
            count--;
        }

        int clamp(int item, int size) {
            int maximum = rows[item][MAXIMUM];
            int minimum = rows[item][MINIMUM];
            int lowered = maximum != AUTO && size > maximum ? maximum : size;
            return lowered < minimum ? minimum : lowered;
        }

        int hypothetical(int item) {
            return clamp(item, rows[item][BASIS]);
        }

        int alignment(int item) {
            int own = rows[item][ALIGN];
            return own == AUTO ? settings[ALIGN_ITEMS] : own;
        }

        boolean hasHorizontalMainAxis() {
            return settings[DIRECTION] < 2;
        }

        boolean isReversed() {
            return settings[DIRECTION] == 1 || settings[DIRECTION] == 3;
        }

        boolean wraps() {
            return settings[WRAP] != WRAP_OFF;
        }
    }

    /** The input buffer, and its reading as an item. */
    private static final class ItemText {
        private static final int WRONG = -1;
        private static final int LETTER_DUE = 0;
        private static final int NUMBER_DUE = 1;
        private static final int DIGIT_DUE = 2;
        private static final int ONE_DIGIT = 3;
        private static final int FOUR_DIGITS = 6;

        final char[] letters = new char[MAX_LETTERS];
        int length = 0;

        int syntaxError() {
            int state = LETTER_DUE;
            for (int place = 0; place < length; place++) {
                state = next(state, letters[place]);
                if (state == WRONG) {
                    return place;
                }
            }
            return state >= ONE_DIGIT ? NO_ERROR : length;
        }

        private static int next(int state, char letter) {
            if (state == LETTER_DUE) {
                return propertyFor(letter) < PROPERTIES ? NUMBER_DUE : WRONG;
            }
            if (letter >= '0' && letter <= '9' && state < FOUR_DIGITS) {
                return state < ONE_DIGIT ? ONE_DIGIT : state + 1;
            }
            if (letter == '-' && state == NUMBER_DUE) {
                return DIGIT_DUE;
            }
            return letter == ' ' && state >= ONE_DIGIT ? LETTER_DUE : WRONG;
        }

        /** Reads a text without a syntax error; returns the place of the first letter with a wrong number. */
        int readInto(int[] row) {
            int start = 0;
            for (int end = 1; end <= length; end++) {
                if (end == length || letters[end] == ' ') {
                    int property = propertyFor(letters[start]);
                    int value = number(start + 1, end);
                    if (!canHave(property, value)) {
                        return start;
                    }
                    row[property] = value;
                    start = end + 1;
                }
            }
            return NO_ERROR;
        }

        private int number(int start, int end) {
            int value = 0;
            boolean isNegative = false;
            for (int place = start; place < end; place++) {
                if (letters[place] == '-') {
                    isNegative = true;
                } else {
                    value = 10 * value + (letters[place] - '0');
                }
            }
            return isNegative ? -value : value;
        }

        /** The property that a letter stands for, or PROPERTIES if it stands for none. */
        private static int propertyFor(char letter) {
            int property = 0;
            while (property < PROPERTIES && LETTERS[property] != letter) {
                property++;
            }
            return property;
        }
    }

    /** The exact division of pixels among parties with weights. */
    private static final class Division {
        final long[] weights = new long[MAX_ITEMS];
        final int[] shares = new int[MAX_ITEMS];
        private final long[] remainders = new long[MAX_ITEMS];

        long weightSum(int parties) {
            long sum = 0;
            for (int party = 0; party < parties; party++) {
                sum += weights[party];
            }
            return sum;
        }

        /** Without any weight, nobody gets anything. */
        void divide(int pixels, int parties) {
            long sum = weightSum(parties);
            int left = sum > 0 ? pixels : 0;
            for (int party = 0; party < parties; party++) {
                long product = pixels * weights[party];
                shares[party] = sum > 0 ? (int) (product / sum) : 0;
                remainders[party] = sum > 0 ? product % sum : 0;
                left -= shares[party];
            }
            giveOut(left, parties);
        }

        private void giveOut(int left, int parties) {
            for (int pixel = 0; pixel < left && pixel < parties; pixel++) {
                int best = 0;
                for (int party = 1; party < parties; party++) {
                    if (remainders[party] > remainders[best]) {
                        best = party;
                    }
                }
                shares[best]++;
                remainders[best] = -1;
            }
        }
    }

    /** The layout sequence and its lines: line k has the places from starts[k] to before starts[k + 1]. */
    private static final class Arrangement {
        final int[] sequence = new int[MAX_ITEMS];
        final int[] starts = new int[MAX_ITEMS + 1];
        int lineCount = 0;

        void arrange(Container container) {
            putInSequence(container);
            if (container.wraps()) {
                lineCount = fillLines(container, container.mainSize);
            } else {
                lineCount = container.count > 0 ? 1 : 0;
                starts[0] = 0;
                starts[lineCount] = container.count;
            }
        }

        void putInSequence(Container container) {
            for (int item = 0; item < container.count; item++) {
                int order = container.rows[item][ORDER];
                int place = item;
                while (place > 0 && container.rows[sequence[place - 1]][ORDER] > order) {
                    sequence[place] = sequence[place - 1];
                    place--;
                }
                sequence[place] = item;
            }
        }

        int fillLines(Container container, int width) {
            int filled = 0;
            int used = 0;
            for (int place = 0; place < container.count; place++) {
                int size = container.hypothetical(sequence[place]);
                int together = used + container.mainGap + size;
                if (place == 0 || together > width) {
                    starts[filled] = place;
                    filled++;
                    used = size;
                } else {
                    used = together;
                }
            }
            starts[filled] = container.count;
            return filled;
        }

        int lineWith(int item) {
            for (int line = 0; line < lineCount; line++) {
                for (int place = starts[line]; place < starts[line + 1]; place++) {
                    if (sequence[place] == item) {
                        return line;
                    }
                }
            }
            return 0;
        }

        int available(Container container, int line) {
            return container.mainSize - container.mainGap * (starts[line + 1] - starts[line] - 1);
        }
    }

    /** The flexible sizes and the main positions of the items. */
    private static final class MainAxis {
        final int[] sizes = new int[MAX_ITEMS];
        final int[] positions = new int[MAX_ITEMS];
        final int[] roundCounts = new int[MAX_ITEMS];
        final int[] freeSpaces = new int[MAX_ITEMS];
        private final int[] violations = new int[MAX_ITEMS];
        private final boolean[] frozen = new boolean[MAX_ITEMS];

        void layOut(Container container, Arrangement arrangement, Division division) {
            for (int line = 0; line < arrangement.lineCount; line++) {
                findSizes(container, arrangement, division, line);
                findPositions(container, arrangement, line);
            }
        }

        private void findSizes(Container container, Arrangement arrangement, Division division, int line) {
            boolean grows = freezeAtOnce(container, arrangement, line);
            roundCounts[line] = 0;
            // Every round freezes an item at least, so there are never more rounds than items.
            for (int round = 1; round <= MAX_ITEMS && !isFrozen(arrangement, line); round++) {
                int free = spaceLeft(container, arrangement, line);
                weigh(container, arrangement, division, line, grows, free);
                division.divide(Math.abs(free), arrangement.starts[line + 1] - arrangement.starts[line]);
                freeze(arrangement, line, resize(container, arrangement, division, line, grows));
                roundCounts[line] = round;
            }
            freeSpaces[line] = spaceLeft(container, arrangement, line);
        }

        /** Returns whether the line grows. */
        private boolean freezeAtOnce(Container container, Arrangement arrangement, int line) {
            int start = arrangement.starts[line];
            int end = arrangement.starts[line + 1];
            int sum = 0;
            for (int place = start; place < end; place++) {
                sum += container.hypothetical(arrangement.sequence[place]);
            }
            boolean grows = sum < arrangement.available(container, line);
            for (int place = start; place < end; place++) {
                int item = arrangement.sequence[place];
                int[] row = container.rows[item];
                sizes[item] = container.hypothetical(item);
                frozen[item] = grows
                        ? row[GROW] == 0 || row[BASIS] > sizes[item]
                        : row[SHRINK] == 0 || row[BASIS] < sizes[item];
            }
            return grows;
        }

        private boolean isFrozen(Arrangement arrangement, int line) {
            for (int place = arrangement.starts[line]; place < arrangement.starts[line + 1]; place++) {
                if (!frozen[arrangement.sequence[place]]) {
                    return false;
                }
            }
            return true;
        }

        private int spaceLeft(Container container, Arrangement arrangement, int line) {
            int free = arrangement.available(container, line);
            for (int place = arrangement.starts[line]; place < arrangement.starts[line + 1]; place++) {
                int item = arrangement.sequence[place];
                free -= frozen[item] ? sizes[item] : container.rows[item][BASIS];
            }
            return free;
        }

        /** Gives weight to the items that flex in a round, and none to the others, which get no share then. */
        private void weigh(Container container, Arrangement arrangement, Division division, int line,
                boolean grows, int free) {
            boolean flexes = grows ? free > 0 : free < 0;
            int start = arrangement.starts[line];
            for (int place = start; place < arrangement.starts[line + 1]; place++) {
                int item = arrangement.sequence[place];
                int[] row = container.rows[item];
                int weight = grows ? row[GROW] : row[SHRINK] * row[BASIS];
                division.weights[place - start] = flexes && !frozen[item] ? weight : 0;
            }
        }

        /** Returns the sum of the violations. */
        private int resize(Container container, Arrangement arrangement, Division division, int line,
                boolean grows) {
            int start = arrangement.starts[line];
            int sum = 0;
            for (int place = start; place < arrangement.starts[line + 1]; place++) {
                int item = arrangement.sequence[place];
                if (!frozen[item]) {
                    int part = division.shares[place - start];
                    int before = container.rows[item][BASIS] + (grows ? part : -part);
                    sizes[item] = container.clamp(item, before);
                    violations[item] = sizes[item] - before;
                    sum += violations[item];
                }
            }
            return sum;
        }

        private void freeze(Arrangement arrangement, int line, int sum) {
            for (int place = arrangement.starts[line]; place < arrangement.starts[line + 1]; place++) {
                int item = arrangement.sequence[place];
                boolean agrees = sum > 0 ? violations[item] > 0 : violations[item] < 0;
                frozen[item] = frozen[item] || sum == 0 || agrees;
            }
        }

        private void findPositions(Container container, Arrangement arrangement, int line) {
            int start = arrangement.starts[line];
            int parties = arrangement.starts[line + 1] - start;
            int ahead = 0;
            for (int party = 0; party < parties; party++) {
                int item = arrangement.sequence[start + party];
                int position = ahead + offset(container.settings[JUSTIFY], freeSpaces[line], party, parties);
                positions[item] = container.isReversed()
                        ? container.mainSize - position - sizes[item]
                        : position;
                ahead += sizes[item] + container.mainGap;
            }
        }
    }

    /** The cross sizes of the lines, and the cross sizes and positions of the items. */
    private static final class CrossAxis {
        final int[] lineSizes = new int[MAX_ITEMS];
        final int[] lineAscents = new int[MAX_ITEMS];
        final int[] sizes = new int[MAX_ITEMS];
        final int[] positions = new int[MAX_ITEMS];
        int extent = 0;

        void layOut(Container container, Arrangement arrangement, Division division) {
            for (int line = 0; line < arrangement.lineCount; line++) {
                measure(container, arrangement, line);
            }
            boolean isFixed = container.crossSize != AUTO;
            if (isFixed && arrangement.lineCount == 1 && !container.wraps()) {
                lineSizes[0] = container.crossSize;
            } else if (isFixed && container.settings[CONTENT] == CONTENT_STRETCH) {
                stretch(container, arrangement, division);
            }
            int taken = lengthOfLines(container, arrangement);
            extent = isFixed ? container.crossSize : taken;
            findPositions(container, arrangement, extent - taken);
        }

        /** Finds the natural cross size and the greatest ascent of a line. */
        private void measure(Container container, Arrangement arrangement, int line) {
            int others = 0;
            int ascent = 0;
            int descent = 0;
            boolean hasGroup = false;
            for (int place = arrangement.starts[line]; place < arrangement.starts[line + 1]; place++) {
                int item = arrangement.sequence[place];
                int[] row = container.rows[item];
                if (container.alignment(item) == ALIGN_BASELINE) {
                    int below = row[CROSS] - row[ASCENT];
                    ascent = Math.max(ascent, row[ASCENT]);
                    // Ascents may exceed cross sizes: then the greatest descent is less than 0.
                    descent = hasGroup ? Math.max(descent, below) : below;
                    hasGroup = true;
                } else {
                    others = Math.max(others, row[CROSS]);
                }
            }
            lineSizes[line] = Math.max(others, ascent + descent);
            lineAscents[line] = ascent;
        }

        private void stretch(Container container, Arrangement arrangement, Division division) {
            int free = container.crossSize - lengthOfLines(container, arrangement);
            if (free <= 0) {
                return;
            }
            for (int line = 0; line < arrangement.lineCount; line++) {
                division.weights[line] = 1;
            }
            division.divide(free, arrangement.lineCount);
            for (int line = 0; line < arrangement.lineCount; line++) {
                lineSizes[line] += division.shares[line];
            }
        }

        /** The cross sizes of all lines and the cross gaps between them. */
        private int lengthOfLines(Container container, Arrangement arrangement) {
            int sum = 0;
            for (int line = 0; line < arrangement.lineCount; line++) {
                sum += lineSizes[line] + (line > 0 ? container.crossGap : 0);
            }
            return sum;
        }

        private void findPositions(Container container, Arrangement arrangement, int free) {
            int content = container.settings[CONTENT];
            int spread = content == CONTENT_STRETCH ? SPREAD_START : content - 1;
            int ahead = 0;
            for (int line = 0; line < arrangement.lineCount; line++) {
                int linePosition = ahead + offset(spread, free, line, arrangement.lineCount);
                for (int place = arrangement.starts[line]; place < arrangement.starts[line + 1]; place++) {
                    put(container, arrangement.sequence[place], line, linePosition);
                }
                ahead += lineSizes[line] + container.crossGap;
            }
        }

        private void put(Container container, int item, int line, int linePosition) {
            int[] row = container.rows[item];
            boolean isStretched = container.alignment(item) == ALIGN_STRETCH && row[STRETCHABLE] == 1;
            sizes[item] = isStretched ? lineSizes[line] : row[CROSS];
            int position = linePosition + positionInLine(container, item, line);
            positions[item] = container.settings[WRAP] == WRAP_REVERSED
                    ? extent - position - sizes[item]
                    : position;
        }

        private int positionInLine(Container container, int item, int line) {
            int room = lineSizes[line] - sizes[item];
            switch (container.alignment(item)) {
                case ALIGN_END:
                    return room;
                case ALIGN_CENTER:
                    return Math.floorDiv(room, 2);
                case ALIGN_BASELINE:
                    return lineAscents[line] - container.rows[item][ASCENT];
                default:
                    return 0;
            }
        }
    }
}
