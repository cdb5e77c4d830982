/** Promises 13 to 16 and 26: the layout sequence, the lines, hypothetical sizes, and the narrowest main size. */
public final class LinesTest {
    public static void main(String[] args) {
        lines();
        linesWithGaps();
        linesOfClampedSizes();
        lineOf();
        itemAt();
        hypotheticalSize();
        narrowest();
        narrowestFails();
        Check.end();
    }

    private static void lines() {
        FlexLayout layout = Make.row(100, 60, 60, 60);
        Check.due("no wrapping", layout.lines(), 1);
        layout.setSetting(Make.WRAP, 1);
        Check.due("wrapping", layout.lines(), 3);
        layout.setSetting(Make.WRAP, 2);
        Check.due("wrapping reversed", layout.lines(), 3);
        layout.setMainSize(120);
        Check.due("just fits", layout.lines(), 2);
        layout.setMainSize(119);
        Check.due("does not fit by 1", layout.lines(), 3);
        layout.setMainSize(0);
        Check.due("wider than the container", layout.lines(), 3);
        layout.removeItem(0);
        layout.removeItem(0);
        layout.removeItem(0);
        Check.due("no items", layout.lines(), 0);
        layout.setSetting(Make.WRAP, 0);
        Check.due("no items, no wrapping", layout.lines(), 0);
        FlexLayout empty = Make.row(0, 0, 0, 0);
        empty.setSetting(Make.WRAP, 1);
        Check.due("items of size 0 in no space", empty.lines(), 1);
        empty.setGaps(1, 0);
        Check.due("gaps part them", empty.lines(), 3);
    }

    private static void linesWithGaps() {
        FlexLayout layout = Make.row(100, 30, 30, 30);
        layout.setSetting(Make.WRAP, 1);
        layout.setGaps(5, 0);
        Check.due("two gaps of 5 fit", layout.lines(), 1);
        layout.setGaps(6, 0);
        Check.due("two gaps of 6 do not", layout.lines(), 2);
        Check.due("item 1 stays", layout.lineOf(1), 0);
        Check.due("item 2 leaves", layout.lineOf(2), 1);
        layout.setGaps(0, 99);
        Check.due("the cross gap is not counted", layout.lines(), 1);
    }

    private static void linesOfClampedSizes() {
        FlexLayout layout = Make.row(100, 10, 200);
        layout.setSetting(Make.WRAP, 1);
        layout.setProperty(0, Make.MINIMUM, 60);
        layout.setProperty(1, Make.MAXIMUM, 40);
        Check.due("60 and 40", layout.lines(), 1);
        layout.setProperty(1, Make.MAXIMUM, 41);
        Check.due("60 and 41", layout.lines(), 2);
        layout.setSetting(Make.DIRECTION, 2);
        Check.due("in a column too", layout.lines(), 2);
    }

    private static void lineOf() {
        FlexLayout layout = Make.row(100, 50, 50, 50, 50, 50);
        layout.setSetting(Make.WRAP, 1);
        Make.setAll(layout, Make.ORDER, 3, 0, -2, 3, 0);
        // The sequence is 2, 1 | 4, 0 | 3.
        int[] wants = {1, 0, 0, 2, 1};
        for (int item = 0; item < 5; item++) {
            Check.due("line of " + item, layout.lineOf(item), wants[item]);
        }
        layout.setSetting(Make.WRAP, 2);
        Check.due("reversed wrapping fills the same lines", layout.lineOf(3), 2);
        layout.setSetting(Make.WRAP, 0);
        Check.due("without wrapping", layout.lineOf(3), 0);
        for (int item : new int[] {-1, 5, 20, Integer.MIN_VALUE, Integer.MAX_VALUE}) {
            Check.thrown("line of " + item, IndexOutOfBoundsException.class, () -> layout.lineOf(item));
        }
    }

    private static void itemAt() {
        FlexLayout layout = Make.row(100, 1, 1, 1, 1, 1, 1);
        Make.setAll(layout, Make.ORDER, 9, 0, -9, 9, -9, 0);
        int[] wants = {2, 4, 1, 5, 0, 3};
        for (int place = 0; place < 6; place++) {
            Check.due("item at " + place, layout.itemAt(place), wants[place]);
        }
        for (int place : new int[] {-1, 6, 20, Integer.MIN_VALUE, Integer.MAX_VALUE}) {
            Check.thrown("item at " + place, IndexOutOfBoundsException.class, () -> layout.itemAt(place));
        }
        layout.setSetting(Make.DIRECTION, 1);
        layout.setSetting(Make.WRAP, 2);
        Check.due("reversal leaves the sequence", layout.itemAt(0), 2);
        layout.removeItem(2);
        Check.due("after removal", layout.itemAt(0), 3);
    }

    private static void hypotheticalSize() {
        FlexLayout layout = Make.row(10, 50, 50, 50, 50, 50, 50);
        layout.setProperty(1, Make.MAXIMUM, 40);
        layout.setProperty(2, Make.MINIMUM, 60);
        layout.setProperty(3, Make.MAXIMUM, 20);
        layout.setProperty(3, Make.MINIMUM, 30);
        layout.setProperty(4, Make.MAXIMUM, 0);
        layout.setProperty(5, Make.MAXIMUM, 50);
        layout.setProperty(5, Make.MINIMUM, 50);
        int[] wants = {50, 40, 60, 30, 0, 50};
        for (int item = 0; item < 6; item++) {
            Check.due("hypothetical size of " + item, layout.hypotheticalSize(item), wants[item]);
        }
        for (int item : new int[] {-1, 6, 20, Integer.MIN_VALUE, Integer.MAX_VALUE}) {
            Check.thrown("hypothetical size of " + item, IndexOutOfBoundsException.class,
                    () -> layout.hypotheticalSize(item));
        }
    }

    private static void narrowest() {
        FlexLayout layout = Make.row(77, 30, 10, 20, 25, 5);
        layout.setGaps(2, 50);
        // 30 10 20 25 5 with gaps; 30 10 | 20 25 5; 30 | 10 20 | 25 5, and below 32 each item is alone.
        int[] wants = {98, 54, 32, 32, 0, 0};
        for (int count = 1; count <= 6; count++) {
            Check.due("narrowest " + count, layout.narrowest(count), wants[count - 1]);
        }
        Check.due("main size is kept", layout.setMainSize(77), 77);
        Check.due("wrap is kept", layout.setSetting(Make.WRAP, 2), 0);
        Check.due("wrap does not matter", layout.narrowest(2), 54);
        layout.setProperty(4, Make.ORDER, -1);
        // 5 30 10 | 20 25: 49; 5 30 | 10 20 25: 59.
        Check.due("the order matters", layout.narrowest(2), 49);
        layout.setProperty(2, Make.MAXIMUM, 0);
        // 5 30 10 0 | 25 needs 51, 5 30 10 | 0 25 needs 49, 5 30 | 10 0 25 needs 39.
        Check.due("clamped sizes", layout.narrowest(2), 39);
        layout.setProperty(3, Make.MINIMUM, 9999);
        Check.due("the last alone needs nothing", layout.narrowest(2), 51);
        Check.due("no items", new FlexLayout().narrowest(1), 0);
        FlexLayout single = Make.row(100, 9999);
        Check.due("one item is one line in any size", single.narrowest(1), 0);
        FlexLayout zeros = Make.row(100, 0, 0, 0);
        Check.due("items of size 0", zeros.narrowest(1), 0);
    }

    private static void narrowestFails() {
        FlexLayout layout = Make.row(100, 9000, 999);
        Check.due("9999 is enough", layout.narrowest(1), 9999);
        layout.setGaps(1, 0);
        Check.thrown("10000 is too much", java.util.NoSuchElementException.class, () -> layout.narrowest(1));
        Check.due("two lines", layout.narrowest(2), 0);
        for (int count : new int[] {0, -1, 21, Integer.MIN_VALUE, Integer.MAX_VALUE}) {
            Check.thrown("count " + count, IllegalArgumentException.class, () -> layout.narrowest(count));
        }
        for (int item = 2; item < 20; item++) {
            layout.addItem(9999, 1);
        }
        Check.due("20 lines", layout.narrowest(20), 0);
        Check.thrown("18 lines", java.util.NoSuchElementException.class, () -> layout.narrowest(18));
        layout.setGaps(0, 0);
        Check.due("19 lines", layout.narrowest(19), 9999);
    }
}
