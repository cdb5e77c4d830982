/** Short ways to make objects and to look at them. */
final class Make {
    static final int DIRECTION = 0;
    static final int WRAP = 1;
    static final int JUSTIFY = 2;
    static final int ITEMS = 3;
    static final int CONTENT = 4;

    static final int BASIS = 0;
    static final int GROW = 1;
    static final int SHRINK = 2;
    static final int MINIMUM = 3;
    static final int MAXIMUM = 4;
    static final int CROSS = 5;
    static final int ASCENT = 6;
    static final int ALIGN = 7;
    static final int ORDER = 8;
    static final int STRETCHABLE = 9;

    static final int X = 0;
    static final int Y = 1;
    static final int WIDTH = 2;
    static final int HEIGHT = 3;

    private Make() {
    }

    /** A container of a main size, with items of these bases and of cross size 10. */
    static FlexLayout row(int mainSize, int... bases) {
        FlexLayout layout = new FlexLayout();
        layout.setMainSize(mainSize);
        for (int basis : bases) {
            layout.addItem(basis, 10);
        }
        return layout;
    }

    /** A wrapping container of main size 10, with a line for each of these cross sizes. */
    static FlexLayout linesOf(int... crosses) {
        FlexLayout layout = new FlexLayout();
        layout.setMainSize(10);
        layout.setSetting(WRAP, 1);
        for (int cross : crosses) {
            layout.addItem(10, cross);
        }
        return layout;
    }

    static void feedAll(FlexLayout layout, String text) {
        for (char letter : text.toCharArray()) {
            layout.feed(letter);
        }
    }

    static int read(FlexLayout layout, String text) {
        feedAll(layout, text);
        return layout.readItem();
    }

    static void setAll(FlexLayout layout, int property, int... values) {
        for (int item = 0; item < values.length; item++) {
            layout.setProperty(item, property, values[item]);
        }
    }

    static void boxes(String name, FlexLayout layout, int what, int... wants) {
        for (int item = 0; item < wants.length; item++) {
            Check.due(name + ": box(" + item + ", " + what + ")", layout.box(item, what), wants[item]);
        }
    }
}
