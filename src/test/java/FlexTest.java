/** Promises 17 to 19 on the main axis: flexible sizes, rounds, free space, and main positions. */
public final class FlexTest {
    public static void main(String[] args) {
        growing();
        growingInRounds();
        shrinking();
        shrinkingInRounds();
        frozenAtOnce();
        negativeSpace();
        linesOnTheirOwn();
        justify();
        justifyOverflow();
        gapsAndDirections();
        singlePixels();
        gapsInLaterLines();
        twentyItems();
        wrongArguments();
        Check.end();
    }

    private static void line(String name, FlexLayout layout, int rounds, int free) {
        Check.due(name + ": rounds", layout.rounds(0), rounds);
        Check.due(name + ": free space", layout.freeSpace(0), free);
    }

    private static void growing() {
        FlexLayout layout = Make.row(100, 0, 0, 0);
        Make.setAll(layout, Make.GROW, 1, 1, 1);
        Make.boxes("equal remainders", layout, Make.WIDTH, 34, 33, 33);
        line("equal remainders", layout, 1, 0);
        layout.setProperty(0, Make.ORDER, 1);
        Make.boxes("in layout sequence", layout, Make.WIDTH, 33, 34, 33);
        layout.setMainSize(101);
        Make.boxes("two left", layout, Make.WIDTH, 33, 34, 34);
        FlexLayout weighed = Make.row(110, 4, 6);
        Make.setAll(weighed, Make.GROW, 1, 2);
        // 100 by 1 and 2: 33 and 66, and the greater remainder gets the last pixel.
        Make.boxes("greater remainder", weighed, Make.WIDTH, 37, 73);
        weighed.setProperty(0, Make.GROW, 0);
        Make.boxes("one grows", weighed, Make.WIDTH, 4, 106);
        FlexLayout large = Make.row(9999, 0, 0);
        Make.setAll(large, Make.GROW, 99, 98);
        // 9999 * 99 = 5024 * 197 + 173, 9999 * 98 = 4974 * 197 + 24.
        Make.boxes("large", large, Make.WIDTH, 5025, 4974);
    }

    private static void growingInRounds() {
        FlexLayout layout = Make.row(100, 0, 0, 0);
        Make.setAll(layout, Make.GROW, 1, 1, 1);
        layout.setProperty(0, Make.MAXIMUM, 10);
        layout.setProperty(1, Make.MINIMUM, 60);
        // 34 33 33 is clamped to 10 60 33, +3 in all: 60 is frozen; 20 and 20 to 10 and 20: 10 is frozen; 30.
        Make.boxes("three rounds", layout, Make.WIDTH, 10, 60, 30);
        line("three rounds", layout, 3, 0);
        FlexLayout even = Make.row(90, 0, 0, 0);
        Make.setAll(even, Make.GROW, 1, 1, 1);
        even.setProperty(0, Make.MAXIMUM, 20);
        even.setProperty(1, Make.MINIMUM, 40);
        Make.boxes("violations add up to 0", even, Make.WIDTH, 20, 40, 30);
        line("violations add up to 0", even, 1, 0);
        FlexLayout full = Make.row(100, 10, 10);
        Make.setAll(full, Make.GROW, 1, 1);
        Make.setAll(full, Make.MAXIMUM, 20, 30);
        Make.boxes("all at their maximum", full, Make.WIDTH, 20, 30);
        line("all at their maximum", full, 1, 50);
        FlexLayout steps = Make.row(1000, 0, 0, 0);
        Make.setAll(steps, Make.GROW, 1, 1, 1);
        Make.setAll(steps, Make.MAXIMUM, 100, 400, -1);
        Make.boxes("one maximum after the other", steps, Make.WIDTH, 100, 400, 500);
        line("one maximum after the other", steps, 3, 0);
    }

    private static void shrinking() {
        FlexLayout layout = Make.row(100, 30, 40, 50);
        Make.boxes("by basis", layout, Make.WIDTH, 25, 33, 42);
        line("by basis", layout, 1, 0);
        Make.setAll(layout, Make.SHRINK, 0, 1, 2);
        // 20 by 40 and 100: 5 and 14, remainders 100 and 40.
        Make.boxes("by shrink and basis", layout, Make.WIDTH, 30, 34, 36);
        Make.setAll(layout, Make.SHRINK, 0, 0, 0);
        Make.boxes("none shrinks", layout, Make.WIDTH, 30, 40, 50);
        line("none shrinks", layout, 0, -20);
        FlexLayout exact = Make.row(100, 60, 40);
        Make.boxes("exact", exact, Make.WIDTH, 60, 40);
        line("an exact line shrinks, by nothing", exact, 1, 0);
        FlexLayout large = Make.row(5000, 9999, 9999, 9999);
        Make.setAll(large, Make.SHRINK, 99, 98, 97);
        // 24997 by 99, 98 and 97 of 294 (times 9999): 8417, 8332 and 8247, the first with the greatest remainder.
        Make.boxes("large", large, Make.WIDTH, 1581, 1667, 1752);
        line("large", large, 1, 0);
    }

    private static void shrinkingInRounds() {
        FlexLayout layout = Make.row(100, 100, 50);
        layout.setProperty(0, Make.MAXIMUM, 50);
        // 150 is 50 too much: 33 and 17 off is 67 and 33, clamped to 50 and 33; then nothing is too much.
        Make.boxes("a maximum is frozen first", layout, Make.WIDTH, 50, 50);
        line("a maximum is frozen first", layout, 2, 0);
        FlexLayout minimum = Make.row(100, 100, 100);
        minimum.setProperty(0, Make.MINIMUM, 80);
        Make.boxes("minimum", minimum, Make.WIDTH, 80, 20);
        line("minimum", minimum, 2, 0);
        minimum.setProperty(1, Make.MINIMUM, 30);
        Make.boxes("both minimums", minimum, Make.WIDTH, 80, 30);
        line("both minimums", minimum, 2, -10);
        minimum.setProperty(1, Make.MINIMUM, 60);
        line("both at once", minimum, 1, -40);
    }

    private static void frozenAtOnce() {
        FlexLayout layout = Make.row(100, 20, 30);
        line("nobody grows", layout, 0, 50);
        Make.setAll(layout, Make.GROW, 1, 1);
        layout.setProperty(0, Make.MAXIMUM, 10);
        Make.boxes("basis above its maximum", layout, Make.WIDTH, 10, 90);
        line("basis above its maximum", layout, 1, 0);
        FlexLayout shrinks = Make.row(100, 10, 100);
        shrinks.setProperty(0, Make.MINIMUM, 30);
        Make.boxes("basis below its minimum", shrinks, Make.WIDTH, 30, 70);
        line("basis below its minimum", shrinks, 1, 0);
        FlexLayout low = Make.row(100, 10);
        low.setProperty(0, Make.GROW, 1);
        low.setProperty(0, Make.MINIMUM, 30);
        Make.boxes("basis below its minimum grows", low, Make.WIDTH, 100);
        line("basis below its minimum grows", low, 1, 0);
        FlexLayout all = Make.row(10, 5, 5);
        Make.setAll(all, Make.MINIMUM, 6, 6);
        line("all of them", all, 0, -2);
    }

    private static void negativeSpace() {
        FlexLayout zeros = Make.row(0, 0, 0);
        zeros.setGaps(5, 0);
        Make.boxes("all products are 0", zeros, Make.WIDTH, 0, 0);
        line("all products are 0", zeros, 1, -5);
        FlexLayout ones = Make.row(0, 1, 1);
        ones.setGaps(99, 0);
        Make.boxes("never less than 0", ones, Make.WIDTH, 0, 0);
        Make.boxes("places behind the end", ones, Make.X, 0, 99);
        line("never less than 0", ones, 1, -99);
        FlexLayout mixed = Make.row(0, 0, 7);
        Make.boxes("a weight of 0 beside another", mixed, Make.WIDTH, 0, 0);
        line("a weight of 0 beside another", mixed, 1, 0);
    }

    private static void linesOnTheirOwn() {
        FlexLayout layout = Make.row(100, 70, 80, 50, 40, 130);
        layout.setSetting(Make.WRAP, 1);
        Make.setAll(layout, Make.GROW, 1, 0, 1, 0, 0);
        layout.setProperty(4, Make.MINIMUM, 110);
        Make.boxes("each line by itself", layout, Make.WIDTH, 100, 80, 60, 40, 110);
        int[] rounds = {1, 0, 1, 1};
        int[] free = {0, 20, 0, -10};
        for (int index = 0; index < 4; index++) {
            Check.due("rounds of " + index, layout.rounds(index), rounds[index]);
            Check.due("free space of " + index, layout.freeSpace(index), free[index]);
        }
    }

    private static void justify() {
        FlexLayout layout = Make.row(100, 20, 20, 20);
        int[][] wants = {{0, 20, 40}, {40, 60, 80}, {20, 40, 60}, {0, 40, 80}, {6, 40, 73}, {10, 40, 70}};
        for (int value = 0; value < 6; value++) {
            layout.setSetting(Make.JUSTIFY, value);
            Make.boxes("justify " + value, layout, Make.X, wants[value]);
        }
        FlexLayout single = Make.row(100, 55);
        int[] places = {0, 45, 22, 0, 22, 22};
        for (int value = 0; value < 6; value++) {
            single.setSetting(Make.JUSTIFY, value);
            Make.boxes("justify one, " + value, single, Make.X, places[value]);
        }
        FlexLayout uneven = Make.row(100, 10, 10, 10, 10);
        uneven.setMainSize(51);
        int[][] rounded = {{0, 10, 20, 30}, {11, 21, 31, 41}, {5, 15, 25, 35}, {0, 13, 27, 41}, {1, 14, 26, 39},
            {2, 14, 26, 38}};
        for (int value = 0; value < 6; value++) {
            uneven.setSetting(Make.JUSTIFY, value);
            Make.boxes("rounded down " + value, uneven, Make.X, rounded[value]);
        }
    }

    private static void justifyOverflow() {
        FlexLayout layout = Make.row(101, 50, 50, 50);
        Make.setAll(layout, Make.SHRINK, 0, 0, 0);
        int[] starts = {0, -49, -25, 0, -25, -25};
        for (int value = 0; value < 6; value++) {
            layout.setSetting(Make.JUSTIFY, value);
            int start = starts[value];
            Make.boxes("overflow " + value, layout, Make.X, start, start + 50, start + 100);
        }
    }

    private static void gapsAndDirections() {
        FlexLayout layout = Make.row(100, 10, 20, 30);
        layout.setGaps(7, 0);
        Make.boxes("gaps", layout, Make.X, 0, 17, 44);
        Check.due("gaps take space", layout.freeSpace(0), 26);
        layout.setSetting(Make.JUSTIFY, 3);
        Make.boxes("gaps and spaces", layout, Make.X, 0, 30, 70);
        layout.setSetting(Make.DIRECTION, 1);
        Make.boxes("row reversed", layout, Make.X, 90, 50, 0);
        layout.setSetting(Make.DIRECTION, 2);
        Make.boxes("column, y", layout, Make.Y, 0, 30, 70);
        Make.boxes("column, x", layout, Make.X, 0, 0, 0);
        Make.boxes("column, width", layout, Make.WIDTH, 10, 10, 10);
        Make.boxes("column, height", layout, Make.HEIGHT, 10, 20, 30);
        layout.setSetting(Make.DIRECTION, 3);
        Make.boxes("column reversed", layout, Make.Y, 90, 50, 0);
        layout.setSetting(Make.JUSTIFY, 0);
        Make.boxes("column reversed, from its start", layout, Make.Y, 90, 63, 26);
        layout.setProperty(2, Make.ORDER, -1);
        Make.boxes("and in sequence", layout, Make.Y, 53, 26, 70);
    }

    private static void singlePixels() {
        FlexLayout layout = Make.row(21, 10, 10);
        Make.setAll(layout, Make.GROW, 1, 1);
        Make.boxes("one pixel to grow", layout, Make.WIDTH, 11, 10);
        layout.setMainSize(19);
        Make.boxes("one pixel to shrink", layout, Make.WIDTH, 9, 10);
        layout.setProperty(0, Make.MINIMUM, 10);
        Make.boxes("a violation of one pixel", layout, Make.WIDTH, 10, 9);
        line("a violation of one pixel", layout, 2, 0);
        layout.setMainSize(21);
        layout.setProperty(0, Make.MAXIMUM, 10);
        Make.boxes("a violation of minus one", layout, Make.WIDTH, 10, 11);
        line("a violation of minus one", layout, 2, 0);
        FlexLayout pair = Make.row(51, 10, 20);
        pair.setSetting(Make.JUSTIFY, 3);
        Make.boxes("space between two", pair, Make.X, 0, 31);
    }

    private static void gapsInLaterLines() {
        FlexLayout layout = Make.row(50, 50, 10, 10, 10, 40, 20);
        layout.setSetting(Make.WRAP, 1);
        layout.setGaps(5, 0);
        Make.setAll(layout, Make.GROW, 0, 1, 1, 2, 0, 0);
        Make.boxes("sizes of later lines", layout, Make.WIDTH, 50, 13, 12, 15, 40, 20);
        Make.boxes("positions in later lines", layout, Make.X, 0, 0, 18, 35, 0, 0);
        int[] free = {0, 0, 10, 30};
        for (int index = 0; index < 4; index++) {
            Check.due("free space of " + index, layout.freeSpace(index), free[index]);
        }
    }

    private static void twentyItems() {
        FlexLayout layout = new FlexLayout();
        for (int item = 0; item < 20; item++) {
            layout.addItem(1, 1);
            layout.setProperty(item, Make.GROW, 1);
        }
        layout.setMainSize(205);
        for (int item = 0; item < 20; item++) {
            Check.due("width of " + item, layout.box(item, Make.WIDTH), item < 5 ? 11 : 10);
        }
        line("twenty grow", layout, 1, 0);
        layout.setSetting(Make.WRAP, 1);
        layout.setMainSize(1);
        layout.setCrossSize(45);
        Check.due("twenty lines", layout.lines(), 20);
        for (int item = 0; item < 20; item++) {
            Check.due("line of " + item, layout.lineOf(item), item);
            Check.due("rounds of " + item, layout.rounds(item), 1);
            Check.due("y of " + item, layout.box(item, Make.Y), item < 5 ? 3 * item : 5 + 2 * item);
            Check.due("cross size of " + item, layout.lineCross(item), item < 5 ? 3 : 2);
            Check.due("under the point", layout.itemUnder(0, item < 5 ? 3 * item : 5 + 2 * item), item);
            Check.due("share of " + item, layout.share(39, Make.GROW, item), item < 19 ? 2 : 1);
        }
        Check.due("no overlaps", layout.overlaps(), 0);
        Check.thrown("line 20", IndexOutOfBoundsException.class, () -> layout.rounds(20));
    }

    private static void wrongArguments() {
        FlexLayout layout = Make.row(10, 10, 10, 10);
        layout.setSetting(Make.WRAP, 1);
        layout.removeItem(0);
        for (int wrong : new int[] {-1, 2, 3, 20, 21, Integer.MIN_VALUE, Integer.MAX_VALUE}) {
            Check.thrown("rounds " + wrong, IndexOutOfBoundsException.class, () -> layout.rounds(wrong));
            Check.thrown("freeSpace " + wrong, IndexOutOfBoundsException.class, () -> layout.freeSpace(wrong));
            Check.thrown("box of " + wrong, IndexOutOfBoundsException.class, () -> layout.box(wrong, 0));
        }
        for (int wrong : new int[] {-1, 4, Integer.MIN_VALUE, Integer.MAX_VALUE}) {
            Check.thrown("box what " + wrong, IndexOutOfBoundsException.class, () -> layout.box(0, wrong));
        }
        layout.setSetting(Make.WRAP, 0);
        Check.thrown("line 1 without wrapping", IndexOutOfBoundsException.class, () -> layout.rounds(1));
        Check.thrown("free space 1 without wrapping", IndexOutOfBoundsException.class, () -> layout.freeSpace(1));
    }
}
