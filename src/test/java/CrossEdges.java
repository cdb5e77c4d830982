/** Edges of the description: cross sizes, spaces, and positions. */
final class CrossEdges {
    private static final int START = 0;
    private static final int END = 1;
    private static final int CENTER = 2;
    private static final int BETWEEN = 3;
    private static final int AROUND = 4;
    private static final int EVENLY = 5;

    private CrossEdges() {
    }

    static void run() {
        Sentence.section(Sentence.DESCRIPTION);
        baselineGroup();
        naturalSize();
        sizeOfOneLine();
        stretchedLines();
        crossExtent();
        simpleOffsets();
        dividedOffsets();
        rounding();
        overflow();
        mainPositions();
        linePositions();
        stretchedItems();
        positionsInLine();
        reversedDirection();
        reversedWrapping();
    }

    private static void crosses(String name, FlexLayout layout, int... wants) {
        Check.due(name + ": lines", layout.lines(), wants.length);
        for (int line = 0; line < wants.length; line++) {
            Check.due(name + ": cross size of line " + line, layout.lineCross(line), wants[line]);
        }
    }

    /** A container that aligns by baselines, with an item for each cross size and its ascent. */
    private static FlexLayout baselines(int[] crosses, int... ascents) {
        FlexLayout layout = new FlexLayout();
        layout.setSetting(Make.ITEMS, 4);
        for (int item = 0; item < crosses.length; item++) {
            layout.addItem(10, crosses[item]);
            layout.setProperty(item, Make.ASCENT, ascents[item]);
        }
        return layout;
    }

    private static void line(String name, FlexLayout layout, int ascent, int cross) {
        Check.due(name + ": ascent", layout.lineAscent(0), ascent);
        Check.due(name + ": cross size", layout.lineCross(0), cross);
    }

    private static void baselineGroup() {
        Sentence.test("Cross sizes. The effective alignment of an item is its own one, or that of the container.",
                () -> {
            FlexLayout layout = Make.row(100, 10, 10, 10);
            layout.setCrossSize(50);
            layout.setSetting(Make.ITEMS, 2);
            Make.setAll(layout, Make.ALIGN, -1, 0, 3);
            Make.boxes("that of the container, and own ones", layout, Make.Y, 40, 0, 20);
            Make.boxes("0 is an own one", layout, Make.HEIGHT, 10, 50, 10);
        });
        Sentence.test("In a line, the baseline group consists of the items with effective alignment baseline.", () -> {
            FlexLayout layout = baselines(new int[] {10, 10, 10}, 1, 2, 3);
            line("by the container", layout, 3, 12);
            layout.setProperty(2, Make.ALIGN, 1);
            line("not with another own one", layout, 2, 11);
            layout.setSetting(Make.ITEMS, 0);
            layout.setProperty(0, Make.ALIGN, 4);
            line("by its own one", layout, 1, 10);
            layout.setSetting(Make.ITEMS, 4);
            layout.setSetting(Make.WRAP, 1);
            layout.setMainSize(10);
            layout.setProperty(2, Make.ALIGN, -1);
            for (int index = 0; index < 3; index++) {
                Check.due("in a line alone", layout.lineAscent(index), index + 1);
                Check.due("in a line alone", layout.lineCross(index), 10);
            }
        });
        Sentence.test("The greatest ascent is the maximum of their ascents, and the greatest descent is the maximum of "
                + "their cross sizes minus their ascents;", () -> {
            line("of one item", baselines(new int[] {20}, 5), 5, 20);
            line("of two items", baselines(new int[] {20, 30}, 15, 5), 15, 40);
            line("an ascent of the whole item", baselines(new int[] {20}, 20), 20, 20);
            line("no sizes", baselines(new int[] {0, 0}, 0, 0), 0, 0);
            line("a baseline outside of one", baselines(new int[] {20, 20}, 30, 20), 30, 30);
            line("a baseline outside of all", baselines(new int[] {20, 20}, 30, 21), 30, 29);
            line("the greatest ones", baselines(new int[] {9999, 9999}, 9999, 0), 9999, 19998);
            line("the lowest descent", baselines(new int[] {0}, 9999), 9999, 0);
        });
        Sentence.test("both are 0 without such items.", () -> {
            FlexLayout layout = baselines(new int[] {20, 0}, 15, 99);
            layout.setSetting(Make.ITEMS, 1);
            line("no such items", layout, 0, 20);
            layout.removeItem(0);
            line("no sizes", layout, 0, 0);
        });
    }

    private static void naturalSize() {
        Sentence.test("The natural cross size of a line is the maximum of the cross sizes of its other items and of "
                + "the greatest ascent plus the greatest descent.", () -> {
            // The group needs 15 + 25.
            FlexLayout layout = baselines(new int[] {20, 30, 39}, 15, 5, 99);
            layout.setProperty(2, Make.ALIGN, 2);
            line("another item is less by 1", layout, 15, 40);
            layout.setProperty(2, Make.CROSS, 40);
            line("equal", layout, 15, 40);
            layout.setProperty(2, Make.CROSS, 41);
            line("greater by 1", layout, 15, 41);
            layout.setProperty(2, Make.ALIGN, 0);
            line("a stretchable item counts too", layout, 15, 41);
        });
    }

    private static void sizeOfOneLine() {
        Sentence.test("If there is one line, wrapping is off, and H is not automatic, the cross size of the line is H.",
                () -> {
            FlexLayout layout = Make.row(100, 10, 10);
            layout.setSetting(Make.CONTENT, 1);
            layout.setCrossSize(9);
            crosses("H is less than the items", layout, 9);
            layout.setCrossSize(0);
            crosses("H is 0", layout, 0);
            layout.setCrossSize(9999);
            crosses("H is more than the items", layout, 9999);
            layout.setCrossSize(FlexLayout.AUTO);
            crosses("H is automatic", layout, 10);
            layout.setCrossSize(50);
            for (int wrap = 1; wrap <= 2; wrap++) {
                layout.setSetting(Make.WRAP, wrap);
                crosses("one line, but wrapping is on", layout, 10);
            }
            layout.setCrossSize(5);
            crosses("wrapping, H is less", layout, 10);
            FlexLayout none = new FlexLayout();
            none.setCrossSize(50);
            crosses("no line", none);
        });
        Sentence.test("Otherwise, the lines have their natural cross sizes at first;", () -> {
            FlexLayout layout = Make.linesOf(10, 0, 30);
            crosses("H is automatic", layout, 10, 0, 30);
            layout.setCrossSize(0);
            crosses("H is 0", layout, 10, 0, 30);
            layout.setCrossSize(100);
            layout.setSetting(Make.CONTENT, 1);
            crosses("content is start", layout, 10, 0, 30);
        });
    }

    private static void stretchedLines() {
        Sentence.test("if H is not automatic, content is stretch, and the free cross space is greater than 0, it is "
                + "divided among the lines with equal weights, in their order, and the shares are added.", () -> {
            FlexLayout layout = Make.linesOf(10, 0, 30);
            layout.setGaps(0, 5);
            int[][] wants = {{10, 0, 30}, {10, 0, 30}, {11, 0, 30}, {11, 1, 30}, {11, 1, 31}, {12, 1, 31}};
            for (int free = -1; free <= 4; free++) {
                layout.setCrossSize(50 + free);
                crosses("free cross space " + free, layout, wants[free + 1]);
            }
            layout.setSetting(Make.WRAP, 2);
            crosses("the first line first, reversed too", layout, 12, 1, 31);
            for (int content = 1; content <= 6; content++) {
                layout.setSetting(Make.CONTENT, content);
                crosses("content " + content, layout, 10, 0, 30);
            }
            layout.setSetting(Make.CONTENT, 0);
            layout.setCrossSize(FlexLayout.AUTO);
            crosses("automatic", layout, 10, 0, 30);
            layout.setMainSize(30);
            layout.setCrossSize(9999);
            crosses("one line", layout, 9999);
            FlexLayout twenty = Make.linesOf(new int[20]);
            twenty.setCrossSize(39);
            crosses("20 lines", twenty, 2, 2, 2, 2, 2, 2, 2, 2, 2, 2, 2, 2, 2, 2, 2, 2, 2, 2, 2, 1);
        });
        Sentence.test("The free cross space is H minus the cross sizes of the lines and the cross gaps between them; it "
                + "is 0 if H is automatic.", () -> {
            FlexLayout layout = Make.linesOf(10, 20);
            layout.setGaps(50, 7);
            layout.setSetting(Make.CONTENT, 2);
            int[] sizes = {FlexLayout.AUTO, 37, 38, 36, 0, 9999};
            int[] frees = {0, 0, 1, -1, -37, 9962};
            for (int i = 0; i < sizes.length; i++) {
                layout.setCrossSize(sizes[i]);
                Make.boxes("H " + sizes[i], layout, Make.Y, frees[i], frees[i] + 17);
            }
            layout.setMainSize(70);
            layout.setCrossSize(30);
            Make.boxes("one line has no gap", layout, Make.Y, 10, 10);
        });
    }

    private static void crossExtent() {
        Sentence.test("The cross extent of the container is H, or, if H is automatic, the sum of the cross sizes of the "
                + "lines and the cross gaps between them.", () -> {
            FlexLayout layout = Make.linesOf(10, 20, 0);
            layout.setGaps(50, 7);
            Check.due("automatic", layout.crossExtent(), 44);
            layout.setCrossSize(0);
            Check.due("H is 0", layout.crossExtent(), 0);
            layout.setCrossSize(9999);
            Check.due("H is 9999", layout.crossExtent(), 9999);
            layout.setCrossSize(FlexLayout.AUTO);
            layout.setMainSize(130);
            Check.due("one line", layout.crossExtent(), 20);
            FlexLayout most = new FlexLayout();
            most.setMainSize(0);
            most.setGaps(0, 99);
            most.setSetting(Make.WRAP, 1);
            for (int item = 0; item < 20; item++) {
                most.addItem(1, 9999);
            }
            Check.due("20 lines of 9999 and 19 gaps of 99", most.crossExtent(), 201861);
            Check.due("the last line", most.box(19, Make.Y), 191862);
        });
    }

    /** Items and lines of size 0 stand at their offsets. */
    private static void offsets(int way, int free, int... wants) {
        FlexLayout items = Make.row(free, new int[wants.length]);
        items.setSetting(Make.JUSTIFY, way);
        Make.boxes("items in " + free, items, Make.X, wants);
        FlexLayout lines = Make.linesOf(new int[wants.length]);
        lines.setSetting(Make.CONTENT, way + 1);
        lines.setCrossSize(free);
        Make.boxes("lines in " + free, lines, Make.Y, wants);
    }

    /** Two items, and two lines, of 5 and 6 pixels in a space that is too small for them. */
    private static void overflowing(int way, int free, int start) {
        FlexLayout items = Make.row(11 + free, 5, 6);
        Make.setAll(items, Make.SHRINK, 0, 0);
        items.setSetting(Make.JUSTIFY, way);
        Make.boxes("items in " + free, items, Make.X, start, start + 5);
        FlexLayout lines = Make.linesOf(5, 6);
        lines.setSetting(Make.CONTENT, way + 1);
        lines.setCrossSize(11 + free);
        Make.boxes("lines in " + free, lines, Make.Y, start, start + 5);
    }

    private static void simpleOffsets() {
        Sentence.untested("Spaces. For a free space F and n parties, the offset of party i, from 0, is:");
        Sentence.test("start and stretch, 0;", () -> {
            offsets(START, 0, 0, 0);
            offsets(START, 9999, 0, 0);
            overflowing(START, -3, 0);
            FlexLayout stretch = Make.linesOf(5, 6);
            stretch.setCrossSize(8);
            Make.boxes("stretch in -3", stretch, Make.Y, 0, 5);
            stretch.setCrossSize(11);
            Make.boxes("stretch in 0", stretch, Make.Y, 0, 5);
            stretch.setCrossSize(12);
            Make.boxes("stretch in 1", stretch, Make.Y, 0, 6);
        });
        Sentence.test("end, F;", () -> {
            offsets(END, 0, 0, 0);
            offsets(END, 1, 1, 1);
            offsets(END, 9999, 9999, 9999);
            overflowing(END, -3, -3);
        });
        Sentence.test("center, F / 2;", () -> {
            offsets(CENTER, 0, 0, 0);
            offsets(CENTER, 1, 0, 0);
            offsets(CENTER, 2, 1, 1);
            offsets(CENTER, 9999, 4999, 4999);
            overflowing(CENTER, -4, -2);
        });
    }

    private static void dividedOffsets() {
        Sentence.test("space between, F * i / (n - 1), and 0 for n = 1;", () -> {
            offsets(BETWEEN, 0, 0, 0, 0);
            offsets(BETWEEN, 9999, 0);
            offsets(BETWEEN, 9999, 0, 9999);
            offsets(BETWEEN, 1, 0, 0, 1);
            offsets(BETWEEN, 11, 0, 3, 7, 11);
            offsets(BETWEEN, 9999, 0, 526, 1052, 1578, 2105, 2631, 3157, 3683, 4210, 4736, 5262, 5788, 6315, 6841,
                    7367, 7893, 8420, 8946, 9472, 9999);
        });
        Sentence.test("space around, F * (2 * i + 1) / (2 * n);", () -> {
            offsets(AROUND, 0, 0, 0, 0);
            offsets(AROUND, 1, 0);
            offsets(AROUND, 9999, 4999);
            offsets(AROUND, 7, 1, 5);
            offsets(AROUND, 11, 1, 5, 9);
            offsets(AROUND, 9999, 249, 749, 1249, 1749, 2249, 2749, 3249, 3749, 4249, 4749, 5249, 5749, 6249, 6749,
                    7249, 7749, 8249, 8749, 9249, 9749);
        });
        Sentence.test("space evenly, F * (i + 1) / (n + 1).", () -> {
            offsets(EVENLY, 0, 0, 0, 0);
            offsets(EVENLY, 1, 0);
            offsets(EVENLY, 9999, 4999);
            offsets(EVENLY, 7, 2, 4);
            offsets(EVENLY, 11, 2, 5, 8);
            offsets(EVENLY, 9999, 476, 952, 1428, 1904, 2380, 2856, 3333, 3809, 4285, 4761, 5237, 5713, 6189, 6666,
                    7142, 7618, 8094, 8570, 9046, 9522);
        });
    }

    private static void rounding() {
        Sentence.test("All divisions are rounded down, toward negative infinity.", () -> {
            overflowing(CENTER, -1, -1);
            overflowing(CENTER, -2, -1);
            overflowing(CENTER, -3, -2);
            overflowing(CENTER, -11, -6);
            FlexLayout layout = Make.row(100, 10);
            layout.setSetting(Make.ITEMS, 3);
            int[] places = {-5, -5, -4, -4, -3};
            for (int size = 0; size < 5; size++) {
                layout.setCrossSize(size);
                Make.boxes("center of a line of " + size, layout, Make.Y, places[size]);
            }
        });
    }

    private static void overflow() {
        Sentence.test("If F is less than 0, space between is the same as start, and space around and space evenly are "
                + "the same as center.", () -> {
            overflowing(BETWEEN, 0, 0);
            overflowing(BETWEEN, -1, 0);
            overflowing(BETWEEN, -11, 0);
            int[] starts = {0, -1, -1, -2, -2, -3};
            for (int less = 1; less <= 5; less++) {
                overflowing(AROUND, -less, starts[less]);
                overflowing(EVENLY, -less, starts[less]);
            }
            offsets(AROUND, 2, 0, 1);
            offsets(EVENLY, 2, 0, 1);
        });
    }

    private static void mainPositions() {
        Sentence.test("Positions. The main position of an item in a line is the sum of the sizes of the items ahead of "
                + "it in the line, the main gaps between them and it, and its offset by justify, where the free space "
                + "is the available size minus the sizes of all items of the line.", () -> {
            FlexLayout layout = Make.row(110, 40, 20, 30, 90);
            layout.setSetting(Make.WRAP, 1);
            layout.setGaps(5, 0);
            Make.boxes("each line from its own start", layout, Make.X, 0, 45, 70, 0);
            layout.setSetting(Make.JUSTIFY, 1);
            Make.boxes("each line by its own free space", layout, Make.X, 10, 55, 80, 20);
            layout.setSetting(Make.JUSTIFY, 3);
            Make.boxes("between", layout, Make.X, 0, 50, 80, 0);
            layout.setProperty(1, Make.GROW, 1);
            Make.boxes("the sizes after growing", layout, Make.X, 0, 45, 80, 0);
            FlexLayout shrunk = Make.row(50, 60, 40);
            shrunk.setSetting(Make.JUSTIFY, 1);
            Make.boxes("the sizes after shrinking", shrunk, Make.X, 0, 30);
            FlexLayout zeros = Make.row(0, 0, 0, 0);
            zeros.setGaps(99, 0);
            zeros.setSetting(Make.JUSTIFY, 1);
            Make.boxes("gaps alone, at the end", zeros, Make.X, -198, -99, 0);
        });
    }

    private static void linePositions() {
        Sentence.test("The cross position of a line is the sum of the cross sizes of the lines ahead of it, the cross "
                + "gaps between them and it, and its offset by content, where the free space is the free cross space "
                + "that is left after stretching.", () -> {
            FlexLayout layout = Make.linesOf(10, 20, 30);
            layout.setGaps(0, 5);
            layout.setCrossSize(77);
            Make.boxes("nothing is left after stretching", layout, Make.Y, 0, 18, 45);
            layout.setSetting(Make.CONTENT, 2);
            Make.boxes("all is left without it", layout, Make.Y, 7, 22, 47);
            layout.setSetting(Make.CONTENT, 4);
            Make.boxes("between", layout, Make.Y, 0, 18, 47);
            FlexLayout single = Make.row(100, 10);
            single.setCrossSize(50);
            single.setSetting(Make.CONTENT, 2);
            Make.boxes("a line of size H has no free space", single, Make.Y, 0);
        });
    }

    private static void stretchedItems() {
        Sentence.test("An item with effective alignment stretch that may be stretched gets the cross size of its line.",
                () -> {
            FlexLayout layout = Make.row(100, 10, 10, 10, 10);
            Make.setAll(layout, Make.ALIGN, -1, 0, 1, 0);
            Make.setAll(layout, Make.STRETCHABLE, 1, 1, 1, 0);
            for (int size : new int[] {0, 9, 11, 9999}) {
                layout.setCrossSize(size);
                Make.boxes("in " + size, layout, Make.HEIGHT, size, size, 10, 10);
            }
            FlexLayout lines = Make.linesOf(10, 20);
            lines.setCrossSize(33);
            Make.boxes("in lines that are stretched", lines, Make.HEIGHT, 12, 21);
            lines.setSetting(Make.CONTENT, 3);
            Make.boxes("in lines that are not", lines, Make.HEIGHT, 10, 20);
        });
    }

    private static void positionsInLine() {
        Sentence.test("Within the line, its cross position is: 0 for stretch and start;", () -> {
            FlexLayout layout = Make.row(100, 10, 10, 10);
            Make.setAll(layout, Make.ALIGN, 0, 0, 1);
            Make.setAll(layout, Make.STRETCHABLE, 1, 0, 1);
            for (int size : new int[] {0, 9, 10, 9999}) {
                layout.setCrossSize(size);
                Make.boxes("in " + size, layout, Make.Y, 0, 0, 0);
            }
        });
        Sentence.test("the cross size of the line minus that of the item for end, and this divided by 2 and rounded "
                + "down for center;", () -> {
            FlexLayout layout = Make.row(100, 10, 10);
            Make.setAll(layout, Make.ALIGN, 2, 3);
            int[] sizes = {0, 9, 10, 11, 12, 9999};
            int[] ends = {-10, -1, 0, 1, 2, 9989};
            int[] centers = {-5, -1, 0, 0, 1, 4994};
            for (int i = 0; i < sizes.length; i++) {
                layout.setCrossSize(sizes[i]);
                Make.boxes("in " + sizes[i], layout, Make.Y, ends[i], centers[i]);
            }
        });
        Sentence.test("the greatest ascent minus its ascent for baseline.", () -> {
            FlexLayout layout = baselines(new int[] {20, 30, 0}, 15, 5, 0);
            Make.boxes("on one baseline", layout, Make.Y, 0, 10, 15);
            layout.setCrossSize(3);
            Make.boxes("in a line that is too low", layout, Make.Y, 0, 10, 15);
            layout.setCrossSize(9999);
            Make.boxes("in a line that is too high", layout, Make.Y, 0, 10, 15);
            Make.boxes("no baseline outside", baselines(new int[] {1, 1}, 9999, 0), Make.Y, 0, 9999);
        });
    }

    private static void reversedDirection() {
        Sentence.test("If the direction is reversed, an item of size s at main position p is placed at W - p - s "
                + "instead.", () -> {
            FlexLayout layout = Make.row(100, 70, 50);
            Make.setAll(layout, Make.SHRINK, 0, 0);
            int[] places = {Make.X, Make.Y};
            for (int i = 0; i < 2; i++) {
                layout.setSetting(Make.DIRECTION, 2 * i + 1);
                layout.setSetting(Make.JUSTIFY, 0);
                Make.boxes("before 0", layout, places[i], 30, -20);
                layout.setSetting(Make.JUSTIFY, 1);
                Make.boxes("behind W", layout, places[i], 50, 0);
                layout.setSetting(Make.JUSTIFY, 2);
                Make.boxes("both", layout, places[i], 40, -10);
            }
            FlexLayout empty = Make.row(0, 0);
            empty.setSetting(Make.DIRECTION, 1);
            Make.boxes("nothing in nothing", empty, Make.X, 0);
        });
    }

    private static void reversedWrapping() {
        Sentence.test("If wrapping is reversed, an item of cross size c at cross position p, the position of its line "
                + "included, is placed at the cross extent - p - c instead.", () -> {
            FlexLayout layout = Make.linesOf(10, 20);
            layout.setGaps(0, 5);
            layout.setSetting(Make.WRAP, 2);
            Make.boxes("automatic", layout, Make.Y, 25, 0);
            layout.setSetting(Make.CONTENT, 1);
            layout.setCrossSize(30);
            Make.boxes("H is too small", layout, Make.Y, 20, -5);
            layout.setCrossSize(100);
            Make.boxes("H is large", layout, Make.Y, 90, 65);
            layout.setMainSize(20);
            Make.setAll(layout, Make.ALIGN, 1, -1);
            Make.boxes("start is at the bottom", layout, Make.Y, 90, 80);
            layout.setProperty(0, Make.ALIGN, 2);
            Make.boxes("end is at the top", layout, Make.Y, 80, 80);
            layout.setProperty(0, Make.ALIGN, 3);
            layout.setProperty(1, Make.CROSS, 21);
            Make.boxes("rounded before it is reversed", layout, Make.Y, 85, 79);
            Make.setAll(layout, Make.ALIGN, 4, 4);
            Make.setAll(layout, Make.ASCENT, 3, 7);
            Make.boxes("baselines", layout, Make.Y, 86, 79);
            layout.setSetting(Make.DIRECTION, 2);
            Make.boxes("in a column", layout, Make.X, 86, 79);
            Make.boxes("the main axis is not reversed", layout, Make.Y, 0, 10);
        });
    }
}
