/** Edges of the promises whose calls only look: 13 to 27. */
final class QueryEdges {
    private static final int[] NO_ITEMS = {-1, 4, 19, 20, Integer.MIN_VALUE, Integer.MAX_VALUE};
    /** The rich object has four items in two lines. */
    private static final int[] NO_LINES = {-1, 2, 3, 20, 21, Integer.MIN_VALUE, Integer.MAX_VALUE};

    private QueryEdges() {
    }

    static void run() {
        lines();
        lineOf();
        itemAt();
        hypotheticalSize();
        box();
        rounds();
        freeSpace();
        lineCross();
        lineAscent();
        crossExtent();
        overflows();
        itemUnder();
        edgesOfBoxes();
        overlaps();
        narrowest();
        narrowestRange();
        share();
        shareRange();
    }

    private static FlexLayout twentyOf(int basis, int cross) {
        FlexLayout layout = new FlexLayout();
        for (int item = 0; item < 20; item++) {
            layout.addItem(basis, cross);
        }
        return layout;
    }

    private static void lines() {
        Sentence.section(13);
        Sentence.test("Returns the number of lines of the layout. Returns the number of lines.", () -> {
            FlexLayout layout = twentyOf(5, 5);
            Check.due("without wrapping", layout.lines(), 1);
            layout.setSetting(Make.WRAP, 1);
            Check.due("20 items of 5 in 100", layout.lines(), 1);
            layout.setMainSize(99);
            Check.due("in 99", layout.lines(), 2);
            layout.setMainSize(0);
            Check.due("in 0", layout.lines(), 20);
            Check.due("without items", new FlexLayout().lines(), 0);
        });
    }

    private static void lineOf() {
        Sentence.section(14);
        Sentence.test("Returns the line of an item. item: the item Returns the number of the line, from 0 in the order "
                + "in which the lines are filled.", () -> {
            FlexLayout layout = twentyOf(5, 5);
            layout.setMainSize(5);
            for (int wrap = 1; wrap <= 2; wrap++) {
                layout.setSetting(Make.WRAP, wrap);
                for (int item = 0; item < 20; item++) {
                    Check.due("line of " + item + ", wrap " + wrap, layout.lineOf(item), item);
                }
            }
            layout.setProperty(19, Make.ORDER, -1);
            Check.due("the first by its order", layout.lineOf(19), 0);
            Check.due("then the others", layout.lineOf(0), 1);
            Check.due("then the others", layout.lineOf(18), 19);
        });
        Sentence.test("Throws IndexOutOfBoundsException if there is no such item", () -> {
            for (int item : NO_ITEMS) {
                Look.refused("item " + item, Look::rich, Look.INDEX, x -> x.lineOf(item));
            }
            Look.refused("20 of 20", Look::richWith20Items, Look.INDEX, x -> x.lineOf(20));
            Look.refused("0 of none", FlexLayout::new, Look.INDEX, x -> x.lineOf(0));
        });
    }

    private static void itemAt() {
        Sentence.section(15);
        Sentence.test("Returns the item at a place of the layout sequence. place: the place, from 0 Returns the item.",
                () -> {
            FlexLayout layout = twentyOf(5, 5);
            layout.setProperty(0, Make.ORDER, 1);
            Check.due("the first place", layout.itemAt(0), 1);
            Check.due("the last place but one", layout.itemAt(18), 19);
            Check.due("the last place", layout.itemAt(19), 0);
            layout.setSetting(Make.DIRECTION, 3);
            layout.setSetting(Make.WRAP, 2);
            Check.due("no matter which direction", layout.itemAt(0), 1);
        });
        Sentence.test("Throws IndexOutOfBoundsException if there is no such place", () -> {
            for (int place : NO_ITEMS) {
                Look.refused("place " + place, Look::rich, Look.INDEX, x -> x.itemAt(place));
            }
            Look.refused("20 of 20", Look::richWith20Items, Look.INDEX, x -> x.itemAt(20));
            Look.refused("0 of none", FlexLayout::new, Look.INDEX, x -> x.itemAt(0));
        });
    }

    private static void hypotheticalSize() {
        Sentence.section(16);
        Sentence.test("Returns the hypothetical size of an item. item: the item Returns the size.", () -> {
            FlexLayout layout = Make.row(10, 0, 9999, 9999, 0, 5);
            Make.setAll(layout, Make.MAXIMUM, -1, -1, 0, -1, 4);
            Make.setAll(layout, Make.MINIMUM, 0, 0, 0, 9999, 6);
            int[] wants = {0, 9999, 0, 9999, 6};
            for (int item = 0; item < 5; item++) {
                Check.due("item " + item, layout.hypotheticalSize(item), wants[item]);
            }
        });
        Sentence.test("Throws IndexOutOfBoundsException if there is no such item", () -> {
            for (int item : NO_ITEMS) {
                Look.refused("item " + item, Look::rich, Look.INDEX, x -> x.hypotheticalSize(item));
            }
            Look.refused("20 of 20", Look::richWith20Items, Look.INDEX, x -> x.hypotheticalSize(20));
            Look.refused("0 of none", FlexLayout::new, Look.INDEX, x -> x.hypotheticalSize(0));
        });
    }

    private static void box() {
        Sentence.section(17);
        Sentence.test("Returns a coordinate of an item in the layout. item: the item what: 0 x coordinate of its left "
                + "edge, 1 y coordinate of its top edge, 2 width, 3 height Returns the coordinate.", () -> {
            int[][] wants = {{3, 20, 7, 10}, {90, 20, 7, 10}, {20, 3, 10, 7}, {20, 90, 10, 7}};
            for (int direction = 0; direction <= 3; direction++) {
                FlexLayout layout = Make.row(100, 3, 7);
                layout.setCrossSize(30);
                layout.setSetting(Make.ITEMS, 2);
                layout.setSetting(Make.DIRECTION, direction);
                for (int what = 0; what <= 3; what++) {
                    Check.due("direction " + direction + ", what " + what, layout.box(1, what),
                            wants[direction][what]);
                }
            }
            FlexLayout most = twentyOf(9999, 9999);
            for (int item = 0; item < 20; item++) {
                most.setProperty(item, Make.SHRINK, 0);
            }
            most.setGaps(99, 0);
            Check.due("the farthest right", most.box(19, Make.X), 191862);
            most.setSetting(Make.JUSTIFY, 1);
            Check.due("the farthest left", most.box(0, Make.X), 100 - 201861);
        });
        Sentence.test("Throws IndexOutOfBoundsException if there is no such item or what is out of range", () -> {
            for (int item : NO_ITEMS) {
                Look.refused("item " + item, Look::rich, Look.INDEX, x -> x.box(item, 0));
            }
            for (int what : new int[] {-1, 4, Integer.MIN_VALUE, Integer.MAX_VALUE}) {
                Look.refused("what " + what, Look::rich, Look.INDEX, x -> x.box(0, what));
            }
            Look.refused("20 of 20", Look::richWith20Items, Look.INDEX, x -> x.box(20, 3));
            Look.refused("0 of none", FlexLayout::new, Look.INDEX, x -> x.box(0, 0));
        });
    }

    private static void rounds() {
        Sentence.section(18);
        Sentence.test("Returns the number of rounds in which the flexible sizes of a line were found. line: the line",
                () -> {
            FlexLayout layout = Make.row(100, 60, 100, 50, 40);
            layout.setSetting(Make.WRAP, 1);
            Make.setAll(layout, Make.GROW, 0, 1, 1, 1);
            layout.setProperty(2, Make.MAXIMUM, 50);
            // 60 | 100 | 50 40, and the 50 stays.
            int[] wants = {0, 1, 2};
            for (int line = 0; line < 3; line++) {
                Check.due("line " + line, layout.rounds(line), wants[line]);
            }
        });
        Sentence.test("Returns the number of rounds, 0 if all items were frozen at once.", () -> {
            FlexLayout layout = Make.row(100, 40, 40);
            Check.due("nobody grows", layout.rounds(0), 0);
            layout.setProperty(0, Make.GROW, 1);
            Check.due("one grows", layout.rounds(0), 1);
            layout.setMainSize(50);
            Make.setAll(layout, Make.SHRINK, 0, 0);
            Check.due("nobody shrinks", layout.rounds(0), 0);
        });
        Sentence.test("Throws IndexOutOfBoundsException if there is no such line", () -> {
            for (int line : NO_LINES) {
                Look.refused("line " + line, Look::rich, Look.INDEX, x -> x.rounds(line));
            }
            Look.refused("line 1 without wrapping", () -> Make.row(1, 2, 2), Look.INDEX, x -> x.rounds(1));
            Look.refused("line 0 of none", FlexLayout::new, Look.INDEX, x -> x.rounds(0));
        });
    }

    private static void freeSpace() {
        Sentence.section(19);
        Sentence.test("Returns the free space of a line: its available size minus the sizes of its items in the "
                + "layout. line: the line", () -> {
            FlexLayout layout = Make.row(100, 40, 50, 80, 30);
            layout.setSetting(Make.WRAP, 1);
            layout.setGaps(3, 0);
            int[] wants = {7, 20, 70};
            for (int line = 0; line < 3; line++) {
                Check.due("line " + line, layout.freeSpace(line), wants[line]);
            }
            layout.setProperty(2, Make.GROW, 1);
            Check.due("grown", layout.freeSpace(1), 0);
            layout.setProperty(2, Make.MAXIMUM, 99);
            Check.due("grown but for 1", layout.freeSpace(1), 1);
        });
        Sentence.test("Returns the free space, which is less than 0 if the items overflow.", () -> {
            FlexLayout layout = Make.row(99, 50, 50);
            Check.due("shrunk", layout.freeSpace(0), 0);
            Make.setAll(layout, Make.SHRINK, 0, 0);
            Check.due("an overflow of 1", layout.freeSpace(0), -1);
            FlexLayout most = twentyOf(0, 0);
            for (int item = 0; item < 20; item++) {
                most.setProperty(item, Make.MINIMUM, 9999);
            }
            most.setGaps(99, 0);
            most.setMainSize(0);
            Check.due("the greatest overflow", most.freeSpace(0), -201861);
        });
        Sentence.test("Throws IndexOutOfBoundsException if there is no such line", () -> {
            for (int line : NO_LINES) {
                Look.refused("line " + line, Look::rich, Look.INDEX, x -> x.freeSpace(line));
            }
            Look.refused("line 1 without wrapping", () -> Make.row(1, 2, 2), Look.INDEX, x -> x.freeSpace(1));
            Look.refused("line 0 of none", FlexLayout::new, Look.INDEX, x -> x.freeSpace(0));
        });
    }

    private static void lineCross() {
        Sentence.section(20);
        Sentence.test("Returns the cross size of a line. line: the line Returns the cross size, stretching included.",
                () -> {
            FlexLayout layout = Make.linesOf(10, 0);
            Check.due("the first line", layout.lineCross(0), 10);
            Check.due("a line of size 0", layout.lineCross(1), 0);
            layout.setCrossSize(13);
            Check.due("stretched by 2", layout.lineCross(0), 12);
            Check.due("stretched by 1", layout.lineCross(1), 1);
        });
        Sentence.test("Throws IndexOutOfBoundsException if there is no such line", () -> {
            for (int line : NO_LINES) {
                Look.refused("line " + line, Look::rich, Look.INDEX, x -> x.lineCross(line));
            }
            Look.refused("line 1 without wrapping", () -> Make.row(1, 2, 2), Look.INDEX, x -> x.lineCross(1));
            Look.refused("line 0 of none", FlexLayout::new, Look.INDEX, x -> x.lineCross(0));
        });
    }

    private static void lineAscent() {
        Sentence.section(21);
        Sentence.test("Returns the greatest ascent of a line. line: the line Returns the greatest ascent.", () -> {
            FlexLayout layout = Make.linesOf(10, 10, 10);
            Make.setAll(layout, Make.ASCENT, 9999, 4, 7);
            Make.setAll(layout, Make.ALIGN, 4, 4, -1);
            int[] wants = {9999, 4, 0};
            for (int line = 0; line < 3; line++) {
                Check.due("line " + line, layout.lineAscent(line), wants[line]);
            }
        });
        Sentence.test("Throws IndexOutOfBoundsException if there is no such line", () -> {
            for (int line : NO_LINES) {
                Look.refused("line " + line, Look::rich, Look.INDEX, x -> x.lineAscent(line));
            }
            Look.refused("line 1 without wrapping", () -> Make.row(1, 2, 2), Look.INDEX, x -> x.lineAscent(1));
            Look.refused("line 0 of none", FlexLayout::new, Look.INDEX, x -> x.lineAscent(0));
        });
    }

    private static void crossExtent() {
        Sentence.section(22);
        Sentence.test("Returns the cross extent of the container. Returns the cross extent, 0 for an automatic H "
                + "without lines.", () -> {
            FlexLayout layout = new FlexLayout();
            layout.setGaps(99, 99);
            for (int wrap = 0; wrap <= 2; wrap++) {
                layout.setSetting(Make.WRAP, wrap);
                Check.due("automatic, no lines", layout.crossExtent(), 0);
            }
            layout.setCrossSize(70);
            Check.due("H, no lines", layout.crossExtent(), 70);
            layout.addItem(1, 80);
            Check.due("H, a line", layout.crossExtent(), 70);
            layout.setCrossSize(FlexLayout.AUTO);
            Check.due("automatic, a line", layout.crossExtent(), 80);
            layout.removeItem(0);
            Check.due("automatic, no line again", layout.crossExtent(), 0);
        });
    }

    private static void outside(String name, FlexLayout layout, boolean... wants) {
        for (int item = 0; item < wants.length; item++) {
            Check.due(name + ": overflows(" + item + ")", layout.overflows(item), wants[item]);
        }
    }

    private static FlexLayout stiff(int mainSize, int... bases) {
        FlexLayout layout = Make.row(mainSize, bases);
        for (int item = 0; item < bases.length; item++) {
            layout.setProperty(item, Make.SHRINK, 0);
        }
        return layout;
    }

    private static void overflows() {
        Sentence.section(23);
        Sentence.test("Returns whether an item lies outside the container, at least partly: whether it begins before "
                + "position 0 or ends behind W on the main axis,", () -> {
            FlexLayout layout = stiff(100, 50, 50);
            outside("ends at W", layout, false, false);
            layout.setMainSize(99);
            outside("ends 1 behind W", layout, false, true);
            layout.setSetting(Make.JUSTIFY, 1);
            outside("begins 1 before 0", layout, true, false);
            layout.setSetting(Make.DIRECTION, 2);
            outside("in a column", layout, true, false);
            layout.setSetting(Make.DIRECTION, 3);
            outside("in a reversed column", layout, true, false);
            layout.setMainSize(100);
            outside("begins at 0", layout, false, false);
            outside("nothing in nothing", stiff(0, 0), false);
            FlexLayout empty = stiff(10, 10, 0, 0);
            outside("empty, at W", empty, false, false, false);
            empty.setGaps(1, 0);
            outside("empty, behind W", empty, false, true, true);
        });
        Sentence.test("or behind the cross extent on the cross axis, or begins before position 0 there.", () -> {
            FlexLayout layout = Make.row(100, 10, 10, 10);
            Make.setAll(layout, Make.ALIGN, 1, 2, 0);
            outside("automatic", layout, false, false, false);
            layout.setCrossSize(10);
            outside("ends at the extent, begins at 0", layout, false, false, false);
            layout.setCrossSize(9);
            outside("ends 1 behind it, begins 1 before 0", layout, true, true, false);
            layout.setSetting(Make.DIRECTION, 2);
            outside("in a column", layout, true, true, false);
            FlexLayout lines = Make.linesOf(10, 10);
            lines.setSetting(Make.ITEMS, 1);
            lines.setCrossSize(19);
            outside("the last line ends behind it", lines, false, true);
            lines.setSetting(Make.CONTENT, 2);
            outside("the first line begins before 0", lines, true, false);
            lines.setCrossSize(20);
            outside("both fit", lines, false, false);
        });
        Sentence.test("item: the item Returns true if it does.", () -> {
            FlexLayout layout = twentyOf(10, 10);
            for (int item = 0; item < 20; item++) {
                layout.setProperty(item, Make.SHRINK, 0);
            }
            for (int item = 0; item < 20; item++) {
                Check.due("item " + item, layout.overflows(item), item >= 10);
            }
        });
        Sentence.test("Throws IndexOutOfBoundsException if there is no such item", () -> {
            for (int item : NO_ITEMS) {
                Look.refused("item " + item, Look::rich, Look.INDEX, x -> x.overflows(item) ? 1 : 0);
            }
            Look.refused("20 of 20", Look::richWith20Items, Look.INDEX, x -> x.overflows(20) ? 1 : 0);
            Look.refused("0 of none", FlexLayout::new, Look.INDEX, x -> x.overflows(0) ? 1 : 0);
        });
    }

    private static void under(FlexLayout layout, int x, int y, int want) {
        Check.due("itemUnder(" + x + ", " + y + ")", layout.itemUnder(x, y), want);
    }

    private static void nothing(FlexLayout layout, int x, int y) {
        Check.thrown("itemUnder(" + x + ", " + y + ")", Look.ELEMENT, () -> layout.itemUnder(x, y));
    }

    private static void itemUnder() {
        Sentence.section(24);
        Sentence.test("Returns the topmost item at a point: the last one in the layout sequence whose box contains the "
                + "point.", () -> {
            FlexLayout layout = Make.row(100, 30, 0, 30);
            Make.setAll(layout, Make.ORDER, 1, 1, 0);
            under(layout, 0, 0, 2);
            under(layout, 30, 0, 0);
            layout.setProperty(2, Make.BASIS, 0);
            under(layout, 0, 0, 0);
            FlexLayout full = twentyOf(5, 5);
            for (int item = 0; item < 20; item++) {
                under(full, 5 * item, 0, item);
            }
            nothing(full, 100, 0);
            full.removeItem(19);
            nothing(full, 95, 0);
        });
        Sentence.test("x: the x coordinate, any int y: the y coordinate, any int Returns the item.", () -> {
            FlexLayout layout = stiff(0, 9999, 9999);
            layout.setSetting(Make.JUSTIFY, 1);
            under(layout, -1, 0, 1);
            under(layout, -9999, 9, 1);
            under(layout, -10000, 9, 0);
            under(layout, -19998, 0, 0);
            nothing(layout, -19999, 0);
            for (int far : new int[] {Integer.MIN_VALUE, Integer.MAX_VALUE}) {
                nothing(layout, far, 0);
                nothing(layout, -1, far);
                nothing(layout, far, far);
            }
        });
        Sentence.test("Throws NoSuchElementException if no box contains the point", () -> {
            Look.refused("no items", FlexLayout::new, Look.ELEMENT, x -> x.itemUnder(0, 0));
            Look.refused("no width", () -> Make.row(100, 0), Look.ELEMENT, x -> x.itemUnder(0, 0));
            Look.refused("no height", () -> Make.linesOf(0), Look.ELEMENT, x -> x.itemUnder(0, 0));
            Look.refused("beside all", Look::rich, Look.ELEMENT, x -> x.itemUnder(1000, 1000));
            FlexLayout gap = Make.row(100, 10, 10);
            gap.setGaps(1, 0);
            under(gap, 9, 0, 0);
            nothing(gap, 10, 0);
            under(gap, 11, 0, 1);
        });
    }

    private static void edgesOfBoxes() {
        Sentence.test("A box contains its left and top edges, but not its right and bottom edges.", () -> {
            for (int direction = 0; direction <= 3; direction++) {
                FlexLayout layout = Make.row(100, 30);
                layout.setCrossSize(50);
                layout.setSetting(Make.DIRECTION, direction);
                layout.setSetting(Make.JUSTIFY, 2);
                layout.setSetting(Make.ITEMS, 3);
                boolean isRow = direction < 2;
                int left = isRow ? 35 : 20;
                int top = isRow ? 20 : 35;
                int right = left + (isRow ? 30 : 10);
                int bottom = top + (isRow ? 10 : 30);
                under(layout, left, top, 0);
                under(layout, right - 1, top, 0);
                under(layout, left, bottom - 1, 0);
                under(layout, right - 1, bottom - 1, 0);
                nothing(layout, left - 1, top);
                nothing(layout, left, top - 1);
                nothing(layout, right, top);
                nothing(layout, left, bottom);
            }
        });
    }

    private static void overlaps() {
        Sentence.section(25);
        Sentence.test("Returns the number of pairs of items whose boxes have a common point, where edges are treated "
                + "as for itemUnder. Returns the number of pairs.", () -> {
            Check.due("no items", new FlexLayout().overlaps(), 0);
            Check.due("one item", Make.row(100, 100).overlaps(), 0);
            Check.due("edges that touch", Make.row(100, 50, 50).overlaps(), 0);
            Check.due("boxes without a point at one place", Make.row(100, 0, 0, 0).overlaps(), 0);
            Check.due("a box without a point at the edge of another", Make.row(100, 0, 50, 0).overlaps(), 0);
            Check.due("in an overflow", stiff(0, 50, 50).overlaps(), 0);
            Check.due("20 items", twentyOf(5, 5).overlaps(), 0);
            FlexLayout lines = Make.linesOf(10, 20, 30);
            lines.setCrossSize(0);
            for (int content = 0; content <= 6; content++) {
                lines.setSetting(Make.CONTENT, content);
                Check.due("lines that touch", lines.overlaps(), 0);
            }
            FlexLayout outside = Make.linesOf(1, 1);
            outside.setSetting(Make.ITEMS, 4);
            Make.setAll(outside, Make.ASCENT, 9999, 0);
            Check.due("a baseline outside", outside.overlaps(), 0);
        });
    }

    private static void narrowest() {
        Sentence.section(26);
        Sentence.test("Returns the lowest main size for which there are at most a given number of lines, if wrapping is "
                + "on.", () -> {
            FlexLayout layout = Make.row(100, 30, 20, 10, 40);
            layout.setSetting(Make.WRAP, 1);
            layout.setGaps(3, 0);
            // 30 20 10 40 in one line; 30 20 and 10 40 in two; 30, 20 10 and 40 in three, where 40 may be too wide.
            int[] wants = {109, 53, 33, 0, 0};
            for (int count = 1; count <= 5; count++) {
                int size = layout.narrowest(count);
                Check.due("for " + count, size, wants[count - 1]);
                layout.setMainSize(size);
                Check.due("at most " + count, layout.lines() <= count, true);
                if (size > 0) {
                    layout.setMainSize(size - 1);
                    Check.due("more than " + count + " below it", layout.lines() > count, true);
                }
            }
            Check.due("no items", new FlexLayout().narrowest(1), 0);
            Check.due("one item", Make.row(0, 9999).narrowest(1), 0);
            Check.due("sizes of 0", Make.row(0, 0, 0, 0).narrowest(1), 0);
            Check.due("one pixel", Make.row(0, 0, 1).narrowest(1), 1);
        });
        Sentence.test("The main size and the wrap setting do not change, and the wrap setting does not matter.", () -> {
            for (int wrap = 0; wrap <= 2; wrap++) {
                FlexLayout layout = Make.row(17, 30, 20);
                layout.setSetting(Make.WRAP, wrap);
                int lines = layout.lines();
                Check.due("wrap " + wrap, layout.narrowest(1), 50);
                Check.due("the lines stay", layout.lines(), lines);
                Check.due("the main size stays", layout.setMainSize(1), 17);
                Check.due("the wrap setting stays", layout.setSetting(Make.WRAP, 0), wrap);
            }
        });
    }

    private static void narrowestRange() {
        Sentence.test("count: the number of lines, 1 to 20 Returns the lowest main size.", () -> {
            FlexLayout layout = twentyOf(7, 1);
            Check.due("1", layout.narrowest(1), 140);
            Check.due("2", layout.narrowest(2), 70);
            Check.due("19", layout.narrowest(19), 14);
            Check.due("20", layout.narrowest(20), 0);
        });
        Sentence.test("Throws IllegalArgumentException if the count is out of range", () -> {
            for (int count : new int[] {0, 21, -1, Integer.MIN_VALUE, Integer.MAX_VALUE}) {
                Look.refused("count " + count, Look::rich, Look.ARGUMENT, x -> x.narrowest(count));
            }
            Look.refused("0 without items", FlexLayout::new, Look.ARGUMENT, x -> x.narrowest(0));
            Look.refused("0, and no size either", () -> Make.row(0, 9999, 1), Look.ARGUMENT, x -> x.narrowest(0));
        });
        Sentence.test("Throws NoSuchElementException if there is no main size from 0 to 9999 with at most so many "
                + "lines", () -> {
            FlexLayout layout = Make.row(0, 9999, 0);
            Check.due("9999", layout.narrowest(1), 9999);
            Look.refused("10000", () -> Make.row(0, 9999, 1), Look.ELEMENT, x -> x.narrowest(1));
            Check.due("10000, but two lines", Make.row(0, 9999, 1).narrowest(2), 0);
            layout.setGaps(1, 0);
            Check.thrown("10000 by a gap", Look.ELEMENT, () -> layout.narrowest(1));
            FlexLayout most = twentyOf(9999, 1);
            Check.thrown("19 of 20", Look.ELEMENT, () -> most.narrowest(19));
            Check.due("20 of 20", most.narrowest(20), 0);
        });
    }

    private static void share() {
        Sentence.section(27);
        Sentence.test("Divides a number of pixels among the items of the container in the order of their numbers, with "
                + "one property as the weight of each.", () -> {
            FlexLayout layout = Make.row(100, 1, 1, 1);
            Make.setAll(layout, Make.ORDER, 2, 1, 0);
            layout.setSetting(Make.DIRECTION, 1);
            Check.due("the first number first", layout.share(1, Make.BASIS, 0), 1);
            Check.due("not the first of the sequence", layout.share(1, Make.BASIS, 2), 0);
            layout.setSetting(Make.WRAP, 1);
            layout.setMainSize(0);
            Check.due("among the items of all lines", layout.share(9, Make.BASIS, 2), 3);
        });
        Sentence.test("property: 0 basis, 1 grow, 2 shrink, 3 minimum, 5 cross", () -> {
            FlexLayout layout = new FlexLayout();
            Make.read(layout, "b1 g2 s3 m4 c5 x9 a9");
            Make.read(layout, "b9 g8 s7 m6 c5 x1 a1");
            int[] properties = {0, 1, 2, 3, 5};
            for (int i = 0; i < 5; i++) {
                Check.due("property " + properties[i], layout.share(10, properties[i], 0), i + 1);
                Check.due("property " + properties[i], layout.share(10, properties[i], 1), 9 - i);
            }
        });
        Sentence.test("item: the item whose share is returned Returns the share.", () -> {
            FlexLayout layout = twentyOf(1, 1);
            for (int item = 0; item < 20; item++) {
                Check.due("item " + item, layout.share(47, Make.BASIS, item), item < 7 ? 3 : 2);
            }
        });
    }

    private static void shareRange() {
        Sentence.test("pixels: the number of pixels, 0 to 99999", () -> {
            FlexLayout layout = twentyOf(9999, 1);
            Check.due("0", layout.share(0, Make.BASIS, 0), 0);
            Check.due("1", layout.share(1, Make.BASIS, 0), 1);
            Check.due("1, to the others", layout.share(1, Make.BASIS, 1), 0);
            Check.due("99999", layout.share(99999, Make.BASIS, 18), 5000);
            Check.due("99999, to the last", layout.share(99999, Make.BASIS, 19), 4999);
            Check.due("99999, alone", Make.row(100, 9999).share(99999, Make.BASIS, 0), 99999);
        });
        Sentence.test("Throws IllegalArgumentException if the number of pixels is out of range, or if the property is "
                + "none of those listed", () -> {
            for (int pixels : new int[] {-1, 100000, Integer.MIN_VALUE, Integer.MAX_VALUE}) {
                Look.refused("pixels " + pixels, Look::rich, Look.ARGUMENT, x -> x.share(pixels, 0, 0));
            }
            for (int property : new int[] {-1, 4, 6, 7, 8, 9, 10, Integer.MIN_VALUE, Integer.MAX_VALUE}) {
                Look.refused("property " + property, Look::rich, Look.ARGUMENT, x -> x.share(1, property, 0));
            }
            Look.refused("without items", FlexLayout::new, Look.ARGUMENT, x -> x.share(-1, 0, 0));
        });
        Sentence.test("Throws IndexOutOfBoundsException if there is no such item", () -> {
            for (int item : NO_ITEMS) {
                Look.refused("item " + item, Look::rich, Look.INDEX, x -> x.share(1, 0, item));
            }
            Look.refused("20 of 20", Look::richWith20Items, Look.INDEX, x -> x.share(1, 0, 20));
            Look.refused("0 of none", FlexLayout::new, Look.INDEX, x -> x.share(1, 0, 0));
        });
        Sentence.test("Throws ArithmeticException if all weights are 0", () -> {
            Look.refused("minimums", Look::rich, Look.ARITHMETIC, x -> x.share(1, 3, 0));
            Look.refused("bases, no pixels", () -> Make.row(1, 0, 0), Look.ARITHMETIC, x -> x.share(0, 0, 0));
            FlexLayout layout = Make.row(100, 0, 0, 0);
            for (int property : new int[] {0, 1, 3}) {
                Check.thrown("property " + property, Look.ARITHMETIC, () -> layout.share(5, property, 2));
                layout.setProperty(2, property, 1);
                Check.due("one weight is enough", layout.share(5, property, 2), 5);
                Check.due("nothing for the others", layout.share(5, property, 0), 0);
            }
        });
    }
}
