/** Promises 17 and 20 to 22 on the cross axis: lines, baselines, alignment, the cross extent, and positions. */
public final class CrossTest {
    public static void main(String[] args) {
        naturalSizes();
        baselines();
        baselineAboveTheItem();
        fixedSize();
        stretchedLines();
        content();
        contentOverflow();
        alignment();
        alignmentOverflow();
        reversedWrapping();
        wrongArguments();
        Check.end();
    }

    private static void crosses(String name, FlexLayout layout, int... wants) {
        for (int line = 0; line < wants.length; line++) {
            Check.due(name + ": cross size of line " + line, layout.lineCross(line), wants[line]);
        }
    }

    private static void naturalSizes() {
        FlexLayout layout = Make.linesOf(7, 0, 12);
        layout.setGaps(0, 3);
        crosses("natural", layout, 7, 0, 12);
        Check.due("extent", layout.crossExtent(), 25);
        Make.boxes("positions", layout, Make.Y, 0, 10, 13);
        layout.setMainSize(20);
        crosses("the greatest counts", layout, 7, 12);
        Check.due("extent of two", layout.crossExtent(), 22);
        Check.due("stretched to its line", layout.box(1, Make.HEIGHT), 7);
        layout.setSetting(Make.WRAP, 0);
        crosses("one line", layout, 12);
        Check.due("extent of one", layout.crossExtent(), 12);
        FlexLayout empty = new FlexLayout();
        empty.setGaps(9, 9);
        empty.setSetting(Make.WRAP, 1);
        Check.due("no lines", empty.crossExtent(), 0);
        empty.setCrossSize(40);
        Check.due("no lines, but a size", empty.crossExtent(), 40);
    }

    private static void baselines() {
        FlexLayout layout = new FlexLayout();
        layout.addItem(10, 20);
        layout.addItem(10, 12);
        layout.addItem(10, 22);
        Make.setAll(layout, Make.ASCENT, 5, 10, 50);
        Check.due("no group", layout.lineAscent(0), 0);
        Make.setAll(layout, Make.ALIGN, 4, 4, -1);
        Check.due("greatest ascent", layout.lineAscent(0), 10);
        crosses("ascent and descent", layout, 25);
        Make.boxes("on the baseline", layout, Make.Y, 5, 0, 0);
        Make.boxes("not stretched", layout, Make.HEIGHT, 20, 12, 25);
        layout.setProperty(2, Make.CROSS, 26);
        crosses("another item is greater", layout, 26);
        layout.setSetting(Make.ITEMS, 4);
        Check.due("by the container", layout.lineAscent(0), 50);
        crosses("by the container", layout, 65);
        Make.boxes("by the container", layout, Make.Y, 45, 40, 0);
        layout.setProperty(0, Make.ALIGN, 1);
        Check.due("one leaves the group", layout.lineAscent(0), 50);
        crosses("one leaves the group", layout, 52);
        layout.setCrossSize(30);
        Check.due("ascent in a fixed size", layout.lineAscent(0), 50);
        Make.boxes("in a fixed size", layout, Make.Y, 0, 40, 0);
        layout.setSetting(Make.WRAP, 1);
        layout.setMainSize(25);
        Check.due("first line", layout.lineAscent(0), 10);
        Check.due("second line", layout.lineAscent(1), 50);
    }

    private static void baselineAboveTheItem() {
        FlexLayout layout = new FlexLayout();
        layout.setSetting(Make.ITEMS, 4);
        layout.addItem(10, 5);
        layout.setProperty(0, Make.ASCENT, 30);
        crosses("a descent below 0", layout, 5);
        layout.addItem(10, 6);
        layout.setProperty(1, Make.ASCENT, 20);
        crosses("the greater descent is -14", layout, 16);
        Make.boxes("on the baseline", layout, Make.Y, 0, 10);
    }

    private static void fixedSize() {
        FlexLayout layout = Make.linesOf(20, 8);
        layout.setSetting(Make.WRAP, 0);
        layout.setCrossSize(50);
        crosses("H", layout, 50);
        layout.setSetting(Make.CONTENT, 2);
        crosses("content does not matter", layout, 50);
        Make.boxes("nor for positions", layout, Make.Y, 0, 0);
        layout.setCrossSize(15);
        crosses("H below the natural size", layout, 15);
        Make.boxes("all get H", layout, Make.HEIGHT, 15, 15);
        Check.due("extent", layout.crossExtent(), 15);
        layout.setCrossSize(0);
        crosses("H of 0 is not automatic", layout, 0);
        Check.due("extent 0", layout.crossExtent(), 0);
    }

    private static void stretchedLines() {
        FlexLayout layout = Make.linesOf(10, 20, 30);
        layout.setGaps(0, 5);
        layout.setCrossSize(81);
        // 81 - 60 - 10 = 11: 4 4 3.
        crosses("in their order", layout, 14, 24, 33);
        Make.boxes("behind one another", layout, Make.Y, 0, 19, 48);
        Make.boxes("items too", layout, Make.HEIGHT, 14, 24, 33);
        layout.setSetting(Make.CONTENT, 1);
        crosses("not without stretch", layout, 10, 20, 30);
        Check.due("the extent is H", layout.crossExtent(), 81);
        layout.setSetting(Make.CONTENT, 0);
        layout.setCrossSize(69);
        crosses("never shrunk", layout, 10, 20, 30);
        Make.boxes("start of an overflow", layout, Make.Y, 0, 15, 40);
        layout.setMainSize(100);
        crosses("a single line is stretched", layout, 69);
        layout.setCrossSize(29);
        crosses("but wrapping keeps its natural size", layout, 30);
        layout.setCrossSize(FlexLayout.AUTO);
        crosses("automatic", layout, 30);
    }

    private static void content() {
        FlexLayout layout = Make.linesOf(10, 20, 30);
        layout.setGaps(0, 5);
        layout.setCrossSize(110);
        int[][] wants = {{0, 15, 40}, {40, 55, 80}, {20, 35, 60}, {0, 35, 80}, {6, 35, 73}, {10, 35, 70}};
        for (int value = 1; value <= 6; value++) {
            layout.setSetting(Make.CONTENT, value);
            Make.boxes("content " + value, layout, Make.Y, wants[value - 1]);
        }
        layout.setCrossSize(FlexLayout.AUTO);
        Make.boxes("no space in an automatic size", layout, Make.Y, 0, 15, 40);
        FlexLayout single = Make.linesOf(10);
        single.setCrossSize(35);
        int[] places = {0, 25, 12, 0, 12, 12};
        for (int value = 1; value <= 6; value++) {
            single.setSetting(Make.CONTENT, value);
            Make.boxes("content of one line " + value, single, Make.Y, places[value - 1]);
        }
    }

    private static void contentOverflow() {
        FlexLayout layout = Make.linesOf(10, 20);
        layout.setCrossSize(25);
        int[] starts = {0, 0, -5, -3, 0, -3, -3};
        for (int value = 0; value <= 6; value++) {
            layout.setSetting(Make.CONTENT, value);
            Make.boxes("overflow " + value, layout, Make.Y, starts[value], starts[value] + 10);
        }
    }

    private static void alignment() {
        FlexLayout layout = Make.row(100, 10, 10, 10, 10, 10, 10);
        Make.setAll(layout, Make.CROSS, 5, 5, 5, 5, 5, 30);
        Make.setAll(layout, Make.ALIGN, 0, 1, 2, 3, 4, -1);
        Make.boxes("places", layout, Make.Y, 0, 0, 25, 12, 0, 0);
        Make.boxes("sizes", layout, Make.HEIGHT, 30, 5, 5, 5, 5, 30);
        Make.setAll(layout, Make.STRETCHABLE, 0, 0, 0, 0, 0, 0);
        Make.boxes("not stretchable, places", layout, Make.Y, 0, 0, 25, 12, 0, 0);
        Make.boxes("not stretchable, sizes", layout, Make.HEIGHT, 5, 5, 5, 5, 5, 30);
        layout.setSetting(Make.ITEMS, 2);
        layout.setCrossSize(40);
        Make.boxes("the container aligns the last one", layout, Make.Y, 0, 0, 35, 17, 0, 10);
        layout.setProperty(0, Make.ALIGN, -1);
        layout.setProperty(1, Make.ALIGN, 0);
        layout.setProperty(1, Make.STRETCHABLE, 1);
        Make.boxes("own alignment before the container's", layout, Make.HEIGHT, 5, 40, 5);
        Make.boxes("own alignment before the container's", layout, Make.Y, 35, 0, 35);
        layout.setSetting(Make.DIRECTION, 2);
        Make.boxes("in a column", layout, Make.X, 35, 0, 35, 17, 0, 10);
        Make.boxes("in a column", layout, Make.WIDTH, 5, 40, 5, 5, 5, 30);
        layout.setSetting(Make.WRAP, 1);
        layout.setSetting(Make.CONTENT, 2);
        Make.boxes("in a line at the end", layout, Make.X, 35, 10, 35, 22, 10, 10);
    }

    private static void alignmentOverflow() {
        FlexLayout layout = Make.row(100, 10, 10, 10, 10);
        Make.setAll(layout, Make.CROSS, 20, 20, 20, 20);
        Make.setAll(layout, Make.ALIGN, 0, 1, 2, 3);
        Make.setAll(layout, Make.STRETCHABLE, 0, 1, 1, 1);
        layout.setCrossSize(15);
        Make.boxes("rounded down", layout, Make.Y, 0, 0, -5, -3);
        Make.boxes("sizes", layout, Make.HEIGHT, 20, 20, 20, 20);
    }

    private static void reversedWrapping() {
        FlexLayout layout = Make.linesOf(10, 20, 30);
        layout.setGaps(0, 5);
        layout.setSetting(Make.WRAP, 2);
        Make.boxes("automatic", layout, Make.Y, 60, 35, 0);
        layout.setCrossSize(100);
        layout.setSetting(Make.CONTENT, 1);
        Make.boxes("from the end", layout, Make.Y, 90, 65, 30);
        layout.setSetting(Make.ITEMS, 1);
        layout.setMainSize(100);
        Make.boxes("starts of one line", layout, Make.Y, 90, 80, 70);
        layout.setSetting(Make.ITEMS, 3);
        Make.boxes("centers of one line", layout, Make.Y, 80, 75, 70);
        layout.setCrossSize(21);
        Make.boxes("an overflow", layout, Make.Y, 1, -4, -9);
        layout.setSetting(Make.DIRECTION, 3);
        Make.boxes("a column, x", layout, Make.X, 1, -4, -9);
        Make.boxes("a column, y", layout, Make.Y, 90, 80, 70);
    }

    private static void wrongArguments() {
        FlexLayout layout = Make.linesOf(1, 1, 1);
        layout.removeItem(2);
        for (int wrong : new int[] {-1, 2, 3, 20, 21, Integer.MIN_VALUE, Integer.MAX_VALUE}) {
            Check.thrown("lineCross " + wrong, IndexOutOfBoundsException.class, () -> layout.lineCross(wrong));
            Check.thrown("lineAscent " + wrong, IndexOutOfBoundsException.class, () -> layout.lineAscent(wrong));
        }
        layout.setSetting(Make.WRAP, 0);
        Check.thrown("lineCross 1 of 1", IndexOutOfBoundsException.class, () -> layout.lineCross(1));
        Check.thrown("lineAscent 1 of 1", IndexOutOfBoundsException.class, () -> layout.lineAscent(1));
    }
}
