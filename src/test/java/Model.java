import java.math.BigInteger;
import java.util.ArrayList;
import java.util.Comparator;
import java.util.List;
import java.util.NoSuchElementException;
import java.util.regex.Matcher;
import java.util.regex.Pattern;
import java.util.stream.Collectors;
import java.util.stream.IntStream;

/** The document once more, written down sentence by sentence with lists, to compare FlexLayout with. */
final class Model {
    static final int[] LOW = {0, 0, 0, 0, -1, 0, 0, -1, -9, 0};
    static final int[] HIGH = {9999, 99, 99, 9999, 9999, 9999, 9999, 4, 9, 1};
    private static final int[] HIGH_SETTING = {3, 2, 5, 4, 6};
    private static final Pattern TEXT = Pattern.compile("[bgsmxcalot]-?[0-9]{1,4}( [bgsmxcalot]-?[0-9]{1,4})*");
    private static final Pattern SETTING = Pattern.compile("([a-z])(-?[0-9]+)");

    private static final class Item {
        int[] p = {0, 0, 1, 0, -1, 0, 0, -1, 0, 1};
        // Of the layout:
        boolean frozen;
        int size;
        int before;
        int main;
        int crossSize;
        int cross;

        Item copy() {
            Item other = new Item();
            other.p = p.clone();
            return other;
        }

        int clamp(int value) {
            int result = value;
            if (p[4] >= 0 && result > p[4]) {
                result = p[4];
            }
            if (result < p[3]) {
                result = p[3];
            }
            return result;
        }
    }

    private static final class Line {
        final List<Item> items = new ArrayList<>();
        int rounds;
        int free;
        int cross;
        int ascent;
    }

    private static final class State {
        int w = 100;
        int h = -1;
        int mainGap;
        int crossGap;
        int[] settings = new int[5];
        List<Item> items = new ArrayList<>();

        State copy() {
            State other = new State();
            other.w = w;
            other.h = h;
            other.mainGap = mainGap;
            other.crossGap = crossGap;
            other.settings = settings.clone();
            items.forEach(item -> other.items.add(item.copy()));
            return other;
        }
    }

    private State s = new State();
    private State saved;
    private String buffer = "";
    private List<Line> lines;
    private int extent;

    int setMainSize(int size) {
        refuse(size < 0 || size > 9999);
        int old = s.w;
        s.w = size;
        return old;
    }

    int setCrossSize(int size) {
        refuse(size < -1 || size > 9999);
        int old = s.h;
        s.h = size;
        return old;
    }

    int setGaps(int main, int cross) {
        refuse(main < 0 || main > 99 || cross < 0 || cross > 99);
        int old = s.mainGap * 100 + s.crossGap;
        s.mainGap = main;
        s.crossGap = cross;
        return old;
    }

    int setSetting(int setting, int value) {
        bound(setting, 5);
        refuse(value < 0 || value > HIGH_SETTING[setting]);
        int old = s.settings[setting];
        s.settings[setting] = value;
        return old;
    }

    int addItem(int basis, int cross) {
        refuse(basis < 0 || basis > 9999 || cross < 0 || cross > 9999);
        state(s.items.size() == 20);
        Item item = new Item();
        item.p[0] = basis;
        item.p[5] = cross;
        s.items.add(item);
        return s.items.size() - 1;
    }

    int removeItem(int item) {
        bound(item, s.items.size());
        s.items.remove(item);
        return s.items.size();
    }

    int items() {
        return s.items.size();
    }

    int setProperty(int item, int property, int value) {
        bound(item, s.items.size());
        bound(property, 10);
        refuse(value < LOW[property] || value > HIGH[property]);
        int old = s.items.get(item).p[property];
        s.items.get(item).p[property] = value;
        return old;
    }

    int property(int item, int property) {
        bound(item, s.items.size());
        bound(property, 10);
        return s.items.get(item).p[property];
    }

    int feed(char letter) {
        state(buffer.length() == 80);
        buffer += letter;
        return buffer.length();
    }

    int readItem() {
        state(s.items.size() == 20);
        String text = buffer;
        buffer = "";
        if (!TEXT.matcher(text).matches()) {
            return -100 - errorPlace(text);
        }
        Item item = new Item();
        Matcher settings = SETTING.matcher(text);
        while (settings.find()) {
            int property = "bgsmxcalot".indexOf(settings.group(1));
            int value = Integer.parseInt(settings.group(2));
            if (value < LOW[property] || value > HIGH[property]) {
                return -100 - settings.start();
            }
            item.p[property] = value;
        }
        s.items.add(item);
        return s.items.size() - 1;
    }

    /** The length of the longest beginning that some text continues. */
    private static int errorPlace(String text) {
        for (int length = text.length(); length > 0; length--) {
            Matcher matcher = TEXT.matcher(text.substring(0, length));
            if (matcher.matches() || matcher.hitEnd()) {
                return length;
            }
        }
        return 0;
    }

    int lines() {
        layOut();
        return lines.size();
    }

    int lineOf(int item) {
        bound(item, s.items.size());
        layOut();
        return IntStream.range(0, lines.size())
                .filter(line -> lines.get(line).items.contains(s.items.get(item))).findFirst().getAsInt();
    }

    int itemAt(int place) {
        bound(place, s.items.size());
        return s.items.indexOf(sequence().get(place));
    }

    int hypotheticalSize(int item) {
        bound(item, s.items.size());
        return hypothetical(s.items.get(item));
    }

    int box(int item, int what) {
        bound(item, s.items.size());
        bound(what, 4);
        layOut();
        return box(s.items.get(item))[what];
    }

    int rounds(int line) {
        layOut();
        bound(line, lines.size());
        return lines.get(line).rounds;
    }

    int freeSpace(int line) {
        layOut();
        bound(line, lines.size());
        return lines.get(line).free;
    }

    int lineCross(int line) {
        layOut();
        bound(line, lines.size());
        return lines.get(line).cross;
    }

    int lineAscent(int line) {
        layOut();
        bound(line, lines.size());
        return lines.get(line).ascent;
    }

    int crossExtent() {
        layOut();
        return extent;
    }

    boolean overflows(int number) {
        bound(number, s.items.size());
        layOut();
        int[] box = box(s.items.get(number));
        int right = s.settings[0] < 2 ? s.w : extent;
        int bottom = s.settings[0] < 2 ? extent : s.w;
        return box[0] < 0 || box[1] < 0 || box[0] + box[2] > right || box[1] + box[3] > bottom;
    }

    int itemUnder(int x, int y) {
        layOut();
        Item found = null;
        for (Item item : sequence()) {
            int[] box = box(item);
            if (x >= box[0] && y >= box[1] && x < box[0] + box[2] && y < box[1] + box[3]) {
                found = item;
            }
        }
        if (found == null) {
            throw new NoSuchElementException();
        }
        return s.items.indexOf(found);
    }

    int overlaps() {
        layOut();
        int pairs = 0;
        for (Item one : s.items) {
            for (Item other : s.items.subList(0, s.items.indexOf(one))) {
                pairs += common(box(one), box(other), 0) > 0 && common(box(one), box(other), 1) > 0 ? 1 : 0;
            }
        }
        return pairs;
    }

    int narrowest(int count) {
        refuse(count < 1 || count > 20);
        // Every main size is tried that is the length of a run of items, for only there the lines change.
        List<Item> sequence = sequence();
        List<Integer> widths = new ArrayList<>(List.of(0));
        for (int from = 0; from < sequence.size(); from++) {
            int width = -s.mainGap;
            for (int to = from; to < sequence.size(); to++) {
                width += s.mainGap + hypothetical(sequence.get(to));
                widths.add(width);
            }
        }
        return widths.stream().sorted().filter(width -> width <= 9999 && wrapped(width).size() <= count)
                .findFirst().orElseThrow(NoSuchElementException::new);
    }

    int share(int pixels, int property, int item) {
        refuse(pixels < 0 || pixels > 99999 || !List.of(0, 1, 2, 3, 5).contains(property));
        bound(item, s.items.size());
        List<Integer> weights = s.items.stream().map(i -> i.p[property]).collect(Collectors.toList());
        if (weights.stream().allMatch(weight -> weight == 0)) {
            throw new ArithmeticException();
        }
        return divide(pixels, weights)[item];
    }

    int save() {
        saved = s.copy();
        return s.items.size();
    }

    int restore() {
        state(saved == null);
        s = saved.copy();
        return s.items.size();
    }

    private static void refuse(boolean wrong) {
        if (wrong) {
            throw new IllegalArgumentException();
        }
    }

    private static void state(boolean wrong) {
        if (wrong) {
            throw new IllegalStateException();
        }
    }

    private static void bound(int index, int size) {
        if (index < 0 || index >= size) {
            throw new IndexOutOfBoundsException();
        }
    }

    private static int[] divide(int pixels, List<Integer> weights) {
        BigInteger sum = BigInteger.valueOf(weights.stream().mapToLong(weight -> weight).sum());
        int[] shares = new int[weights.size()];
        List<BigInteger> remainders = new ArrayList<>();
        int left = pixels;
        for (int i = 0; i < shares.length; i++) {
            BigInteger[] parts = BigInteger.valueOf(pixels).multiply(BigInteger.valueOf(weights.get(i)))
                    .divideAndRemainder(sum);
            shares[i] = parts[0].intValueExact();
            remainders.add(parts[1]);
            left -= shares[i];
        }
        IntStream.range(0, shares.length).boxed()
                .sorted(Comparator.comparing((Integer i) -> remainders.get(i)).reversed())
                .limit(left).forEach(i -> shares[i]++);
        return shares;
    }

    private static int hypothetical(Item item) {
        return item.clamp(item.p[0]);
    }

    private List<Item> sequence() {
        return s.items.stream().sorted(Comparator.comparingInt(item -> item.p[8])).collect(Collectors.toList());
    }

    private List<Line> wrapped(int w) {
        List<Line> result = new ArrayList<>();
        for (Item item : sequence()) {
            Line last = result.isEmpty() ? null : result.get(result.size() - 1);
            int length = last == null ? 0 : hypothetical(item) + s.mainGap * last.items.size()
                    + last.items.stream().mapToInt(Model::hypothetical).sum();
            if (last == null || length > w) {
                last = new Line();
                result.add(last);
            }
            last.items.add(item);
        }
        return result;
    }

    private void layOut() {
        if (s.settings[1] == 0) {
            Line line = new Line();
            line.items.addAll(sequence());
            lines = line.items.isEmpty() ? List.of() : List.of(line);
        } else {
            lines = wrapped(s.w);
        }
        lines.forEach(this::flex);
        lines.forEach(this::placeOnMainAxis);
        layCross();
    }

    private void flex(Line line) {
        int available = s.w - s.mainGap * (line.items.size() - 1);
        boolean grows = line.items.stream().mapToInt(Model::hypothetical).sum() < available;
        for (Item item : line.items) {
            int hypothetical = hypothetical(item);
            item.frozen = item.p[grows ? 1 : 2] == 0 || grows && item.p[0] > hypothetical
                    || !grows && item.p[0] < hypothetical;
            item.size = hypothetical;
        }
        line.rounds = 0;
        while (line.items.stream().anyMatch(item -> !item.frozen)) {
            line.rounds++;
            round(line, available, grows);
        }
        line.free = available - line.items.stream().mapToInt(item -> item.size).sum();
    }

    private static void round(Line line, int available, boolean grows) {
        int free = available;
        for (Item item : line.items) {
            free -= item.frozen ? item.size : item.p[0];
        }
        List<Item> open = line.items.stream().filter(item -> !item.frozen).collect(Collectors.toList());
        open.forEach(item -> item.before = item.p[0]);
        if (grows && free > 0) {
            int[] shares = divide(free, open.stream().map(item -> item.p[1]).collect(Collectors.toList()));
            for (int i = 0; i < shares.length; i++) {
                open.get(i).before += shares[i];
            }
        }
        List<Integer> products = open.stream().map(item -> item.p[2] * item.p[0]).collect(Collectors.toList());
        if (!grows && free < 0 && products.stream().anyMatch(product -> product > 0)) {
            int[] shares = divide(-free, products);
            for (int i = 0; i < shares.length; i++) {
                open.get(i).before -= shares[i];
            }
        }
        int total = 0;
        for (Item item : open) {
            item.size = item.clamp(item.before);
            total += item.size - item.before;
        }
        for (Item item : open) {
            int violation = item.size - item.before;
            item.frozen = total == 0 || total > 0 && violation > 0 || total < 0 && violation < 0;
        }
    }

    private static int floor(int a, int b) {
        return (a - ((a % b + b) % b)) / b;
    }

    private static int offset(String how, int f, int i, int n) {
        switch (how) {
            case "start":
            case "stretch":
                return 0;
            case "end":
                return f;
            case "center":
                return floor(f, 2);
            case "between":
                return f < 0 || n == 1 ? 0 : floor(f * i, n - 1);
            case "around":
                return f < 0 ? floor(f, 2) : floor(f * (2 * i + 1), 2 * n);
            case "evenly":
                return f < 0 ? floor(f, 2) : floor(f * (i + 1), n + 1);
            default:
                throw new IllegalStateException(how);
        }
    }

    private void placeOnMainAxis(Line line) {
        String how = List.of("start", "end", "center", "between", "around", "evenly").get(s.settings[2]);
        for (int i = 0; i < line.items.size(); i++) {
            Item item = line.items.get(i);
            int p = line.items.subList(0, i).stream().mapToInt(other -> other.size + s.mainGap).sum()
                    + offset(how, line.free, i, line.items.size());
            item.main = s.settings[0] % 2 == 1 ? s.w - p - item.size : p;
        }
    }

    private int alignment(Item item) {
        return item.p[7] == -1 ? s.settings[3] : item.p[7];
    }

    private int freeCross() {
        return s.h == -1 ? 0
                : s.h - lines.stream().mapToInt(line -> line.cross).sum() - s.crossGap * (lines.size() - 1);
    }

    private void layCross() {
        for (Line line : lines) {
            List<Item> group = line.items.stream().filter(i -> alignment(i) == 4).collect(Collectors.toList());
            line.ascent = group.stream().mapToInt(i -> i.p[6]).max().orElse(0);
            int descent = group.stream().mapToInt(i -> i.p[5] - i.p[6]).max().orElse(0);
            line.cross = Math.max(line.ascent + descent,
                    line.items.stream().filter(i -> !group.contains(i)).mapToInt(i -> i.p[5]).max().orElse(0));
        }
        if (lines.size() == 1 && s.settings[1] == 0 && s.h != -1) {
            lines.get(0).cross = s.h;
        } else if (!lines.isEmpty() && s.h != -1 && s.settings[4] == 0 && freeCross() > 0) {
            int[] shares = divide(freeCross(), lines.stream().map(line -> 1).collect(Collectors.toList()));
            for (int i = 0; i < shares.length; i++) {
                lines.get(i).cross += shares[i];
            }
        }
        extent = s.h;
        if (s.h == -1) {
            extent = lines.stream().mapToInt(line -> line.cross).sum() + s.crossGap * Math.max(0, lines.size() - 1);
        }
        placeOnCrossAxis();
    }

    private void placeOnCrossAxis() {
        String how = List.of("stretch", "start", "end", "center", "between", "around", "evenly").get(s.settings[4]);
        for (int i = 0; i < lines.size(); i++) {
            Line line = lines.get(i);
            int start = lines.subList(0, i).stream().mapToInt(other -> other.cross + s.crossGap).sum()
                    + offset(how, freeCross(), i, lines.size());
            for (Item item : line.items) {
                int align = alignment(item);
                item.crossSize = align == 0 && item.p[9] == 1 ? line.cross : item.p[5];
                int p = start;
                if (align == 2) {
                    p += line.cross - item.crossSize;
                } else if (align == 3) {
                    p += floor(line.cross - item.crossSize, 2);
                } else if (align == 4) {
                    p += line.ascent - item.p[6];
                }
                item.cross = s.settings[1] == 2 ? extent - p - item.crossSize : p;
            }
        }
    }

    private int[] box(Item item) {
        return s.settings[0] < 2
                ? new int[] {item.main, item.cross, item.size, item.crossSize}
                : new int[] {item.cross, item.main, item.crossSize, item.size};
    }

    private static int common(int[] one, int[] other, int axis) {
        return Math.min(one[axis] + one[axis + 2], other[axis] + other[axis + 2]) - Math.max(one[axis], other[axis]);
    }
}
