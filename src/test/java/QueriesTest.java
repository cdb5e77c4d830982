import java.util.NoSuchElementException;

/** Promises 23 to 25 and 27: overflow, the item under a point, overlaps, and shares. */
public final class QueriesTest {
    public static void main(String[] args) {
        overflowsOnTheMainAxis();
        overflowsOnTheCrossAxis();
        itemUnder();
        itemUnderInLines();
        overlaps();
        share();
        shareFails();
        Check.end();
    }

    private static void overflow(String name, FlexLayout layout, boolean... wants) {
        for (int item = 0; item < wants.length; item++) {
            Check.due(name + ": overflows(" + item + ")", layout.overflows(item), wants[item]);
        }
    }

    private static void overflowsOnTheMainAxis() {
        FlexLayout layout = Make.row(100, 50, 50, 50);
        overflow("all shrink", layout, false, false, false);
        Make.setAll(layout, Make.SHRINK, 0, 0, 0);
        overflow("behind the end", layout, false, false, true);
        layout.setMainSize(99);
        overflow("partly", layout, false, true, true);
        layout.setSetting(Make.JUSTIFY, 1);
        overflow("before the start", layout, true, true, false);
        layout.setSetting(Make.DIRECTION, 1);
        overflow("reversed, behind the end", layout, true, true, false);
        layout.setSetting(Make.DIRECTION, 2);
        overflow("in a column", layout, true, true, false);
        FlexLayout empty = Make.row(0, 0, 0);
        overflow("empty at the end", empty, false, false);
        empty.setGaps(1, 0);
        overflow("empty behind the end", empty, false, true);
        for (int item : new int[] {-1, 2, 20, Integer.MIN_VALUE, Integer.MAX_VALUE}) {
            Check.thrown("overflows " + item, IndexOutOfBoundsException.class,
                    () -> empty.overflows(item) ? 1 : 0);
        }
    }

    private static void overflowsOnTheCrossAxis() {
        FlexLayout layout = Make.row(100, 10, 10, 10, 10, 10);
        Make.setAll(layout, Make.CROSS, 20, 20, 20, 20, 15);
        Make.setAll(layout, Make.ALIGN, 0, 1, 2, 3, 1);
        overflow("automatic", layout, false, false, false, false, false);
        layout.setCrossSize(15);
        overflow("too low", layout, false, true, true, true, false);
        layout.setSetting(Make.WRAP, 2);
        layout.setSetting(Make.ITEMS, 1);
        overflow("the line itself", layout, true, true, true, true, false);
        layout.setCrossSize(20);
        overflow("just fits", layout, false, false, false, false, false);
    }

    private static void under(String name, FlexLayout layout, int x, int y, int want) {
        Check.due(name + ": itemUnder(" + x + ", " + y + ")", layout.itemUnder(x, y), want);
    }

    private static void nothing(String name, FlexLayout layout, int x, int y) {
        Check.thrown(name + ": itemUnder(" + x + ", " + y + ")", NoSuchElementException.class,
                () -> layout.itemUnder(x, y));
    }

    private static void itemUnder() {
        FlexLayout layout = Make.row(100, 30, 40);
        under("left top", layout, 0, 0, 0);
        under("right bottom", layout, 29, 9, 0);
        under("next", layout, 30, 0, 1);
        under("its end", layout, 69, 9, 1);
        nothing("right edge", layout, 70, 0);
        nothing("bottom edge", layout, 0, 10);
        nothing("left of all", layout, -1, 0);
        nothing("above all", layout, 0, -1);
        nothing("far", layout, Integer.MAX_VALUE, Integer.MAX_VALUE);
        nothing("far", layout, Integer.MIN_VALUE, Integer.MIN_VALUE);
        nothing("far", layout, 0, Integer.MIN_VALUE);
        layout.setSetting(Make.DIRECTION, 2);
        under("column", layout, 9, 29, 0);
        under("column", layout, 0, 30, 1);
        nothing("column", layout, 29, 9);
        layout.setGaps(5, 0);
        nothing("in the gap", layout, 0, 30);
        under("behind the gap", layout, 0, 35, 1);
        layout.setProperty(1, Make.BASIS, 0);
        nothing("an empty box has no point", layout, 0, 35);
    }

    private static void itemUnderInLines() {
        FlexLayout layout = Make.linesOf(10, 20, 30);
        layout.setGaps(0, 5);
        layout.setSetting(Make.WRAP, 2);
        layout.setSetting(Make.ITEMS, 1);
        // From the bottom: 60 to 70, 35 to 55, 0 to 30.
        under("last line on top", layout, 9, 0, 2);
        under("its bottom", layout, 9, 29, 2);
        nothing("the gap", layout, 9, 30);
        under("the middle", layout, 0, 54, 1);
        under("the first line", layout, 0, 60, 0);
        layout.setCrossSize(50);
        layout.setSetting(Make.CONTENT, 1);
        under("an item outside the container", layout, 0, -20, 2);
        Make.setAll(layout, Make.ORDER, 3, 2, 1);
        under("numbers, not places", layout, 0, 49, 2);
    }

    private static void overlaps() {
        FlexLayout layout = Make.row(100, 30, 0, 30, 0, 30);
        Check.due("side by side", layout.overlaps(), 0);
        layout.setSetting(Make.JUSTIFY, 1);
        layout.setMainSize(40);
        Make.setAll(layout, Make.SHRINK, 0, 0, 0, 0, 0);
        Check.due("in an overflow", layout.overlaps(), 0);
        layout.setSetting(Make.WRAP, 1);
        layout.setSetting(Make.ITEMS, 3);
        layout.setCrossSize(0);
        for (int value = 0; value <= 6; value++) {
            layout.setSetting(Make.CONTENT, value);
            Check.due("lines below one another, content " + value, layout.overlaps(), 0);
        }
        Check.due("no items", new FlexLayout().overlaps(), 0);
    }

    private static void shares(String name, FlexLayout layout, int pixels, int property, int... wants) {
        for (int item = 0; item < wants.length; item++) {
            Check.due(name + ": share(" + pixels + ", " + property + ", " + item + ")",
                    layout.share(pixels, property, item), wants[item]);
        }
    }

    private static void share() {
        FlexLayout layout = Make.row(100, 60, 35, 50, 120);
        Make.setAll(layout, Make.ORDER, 4, 3, 2, 1);
        shares("the two greatest remainders", layout, 100, Make.BASIS, 23, 13, 19, 45);
        shares("no pixels", layout, 0, Make.BASIS, 0, 0, 0, 0);
        shares("one pixel", layout, 1, Make.BASIS, 0, 0, 0, 1);
        shares("by numbers, not by the sequence", layout, 3, Make.SHRINK, 1, 1, 1, 0);
        Make.setAll(layout, Make.GROW, 0, 1, 0, 2);
        shares("grow", layout, 5, Make.GROW, 0, 2, 0, 3);
        Make.setAll(layout, Make.SHRINK, 9, 0, 0, 0);
        shares("shrink", layout, 77, Make.SHRINK, 77, 0, 0, 0);
        Make.setAll(layout, Make.MINIMUM, 1, 2, 3, 4);
        shares("minimum", layout, 11, Make.MINIMUM, 1, 2, 3, 5);
        Make.setAll(layout, Make.CROSS, 9999, 9999, 9999, 0);
        shares("cross", layout, 99999, Make.CROSS, 33333, 33333, 33333, 0);
        shares("equal remainders", layout, 99998, Make.CROSS, 33333, 33333, 33332, 0);
    }

    private static void shareFails() {
        FlexLayout layout = Make.row(100, 0, 0);
        for (int pixels : new int[] {-1, 100000, Integer.MIN_VALUE, Integer.MAX_VALUE}) {
            Check.thrown("pixels " + pixels, IllegalArgumentException.class, () -> layout.share(pixels, 2, 0));
            Check.thrown("pixels before item", IllegalArgumentException.class, () -> layout.share(pixels, 2, 9));
            Check.thrown("pixels before weights", IllegalArgumentException.class, () -> layout.share(pixels, 0, 0));
        }
        for (int property : new int[] {-1, 4, 6, 7, 8, 9, 10, Integer.MIN_VALUE, Integer.MAX_VALUE}) {
            Check.thrown("property " + property, IllegalArgumentException.class, () -> layout.share(9, property, 0));
            Check.thrown("property before item", IllegalArgumentException.class, () -> layout.share(9, property, 9));
        }
        for (int item : new int[] {-1, 2, 20, Integer.MIN_VALUE, Integer.MAX_VALUE}) {
            Check.thrown("item " + item, IndexOutOfBoundsException.class, () -> layout.share(9, 2, item));
            Check.thrown("item before weights", IndexOutOfBoundsException.class, () -> layout.share(9, 0, item));
        }
        for (int property : new int[] {0, 1, 3}) {
            Check.thrown("all weights are 0", ArithmeticException.class, () -> layout.share(10, property, 1));
        }
        Check.thrown("even for no pixels", ArithmeticException.class, () -> layout.share(0, 0, 0));
        Check.thrown("no items", IndexOutOfBoundsException.class, () -> new FlexLayout().share(0, 0, 0));
        layout.setProperty(1, Make.BASIS, 1);
        shares("one weight is enough", layout, 10, Make.BASIS, 0, 10);
    }
}
