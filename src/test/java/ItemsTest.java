/** Promises 6 to 10: items and their properties. */
public final class ItemsTest {
    private static final int[] LOWEST = {0, 0, 0, 0, -1, 0, 0, -1, -9, 0};
    private static final int[] HIGHEST = {9999, 99, 99, 9999, 9999, 9999, 9999, 4, 9, 1};
    private static final int[] FIRST = {0, 0, 1, 0, -1, 0, 0, -1, 0, 1};

    public static void main(String[] args) {
        addItem();
        addItemLimits();
        removeItem();
        items();
        setProperty();
        wrongProperties();
        Check.end();
    }

    private static void addItem() {
        FlexLayout layout = new FlexLayout();
        Check.due("first number", layout.addItem(9999, 0), 0);
        Check.due("second number", layout.addItem(0, 9999), 1);
        for (int property = 0; property < 10; property++) {
            int want = property == Make.BASIS ? 9999 : FIRST[property];
            Check.due("item 0, property " + property, layout.property(0, property), want);
            want = property == Make.CROSS ? 9999 : FIRST[property];
            Check.due("item 1, property " + property, layout.property(1, property), want);
        }
    }

    private static void addItemLimits() {
        FlexLayout layout = new FlexLayout();
        int[][] wrongs = {{-1, 0}, {10000, 0}, {0, -1}, {0, 10000}, {Integer.MIN_VALUE, 1}, {1, Integer.MAX_VALUE}};
        for (int[] sizes : wrongs) {
            Check.thrown("addItem " + sizes[0] + " " + sizes[1], IllegalArgumentException.class,
                    () -> layout.addItem(sizes[0], sizes[1]));
        }
        Check.due("nothing was added", layout.items(), 0);
        for (int item = 0; item < 20; item++) {
            Check.due("number", layout.addItem(item, item), item);
        }
        Check.thrown("a 21st item", IllegalStateException.class, () -> layout.addItem(1, 1));
        Check.thrown("a wrong 21st item", IllegalArgumentException.class, () -> layout.addItem(-1, 1));
        Check.due("still 20", layout.items(), 20);
        Check.due("the last one stays", layout.property(19, Make.BASIS), 19);
        layout.removeItem(3);
        Check.due("room again", layout.addItem(77, 1), 19);
        Check.due("with first values", layout.property(19, Make.SHRINK), 1);
    }

    private static void removeItem() {
        FlexLayout layout = Make.row(100, 1, 2, 3, 4);
        layout.setProperty(3, Make.GROW, 9);
        layout.setProperty(1, Make.ORDER, 5);
        Check.due("remain", layout.removeItem(1), 3);
        int[] bases = {1, 3, 4};
        for (int item = 0; item < 3; item++) {
            Check.due("basis " + item, layout.property(item, Make.BASIS), bases[item]);
            Check.due("order " + item, layout.property(item, Make.ORDER), 0);
        }
        Check.due("grow moves along", layout.property(2, Make.GROW), 9);
        for (int item : new int[] {-1, 3, 20, Integer.MIN_VALUE, Integer.MAX_VALUE}) {
            Check.thrown("removeItem " + item, IndexOutOfBoundsException.class, () -> layout.removeItem(item));
        }
        Check.due("last", layout.removeItem(2), 2);
        Check.due("first", layout.removeItem(0), 1);
        Check.due("what stays", layout.property(0, Make.BASIS), 3);
        Check.due("only", layout.removeItem(0), 0);
        Check.thrown("none left", IndexOutOfBoundsException.class, () -> layout.removeItem(0));
        Check.due("a new one", layout.addItem(8, 9), 0);
        Check.due("has first values", layout.property(0, Make.GROW), 0);
    }

    private static void items() {
        FlexLayout layout = new FlexLayout();
        for (int count = 0; count < 20; count++) {
            Check.due("items", layout.items(), count);
            layout.addItem(1, 1);
        }
        Check.due("20 items", layout.items(), 20);
        layout.removeItem(0);
        Check.due("19 items", layout.items(), 19);
        Make.read(layout, "b5");
        Check.due("20 items by reading", layout.items(), 20);
    }

    private static void setProperty() {
        FlexLayout layout = Make.row(100, 0, 0, 0);
        layout.setProperty(1, Make.CROSS, 0);
        for (int property = 0; property < 10; property++) {
            Check.due("first of " + property, layout.setProperty(1, property, LOWEST[property]), FIRST[property]);
            Check.due("lowest", layout.property(1, property), LOWEST[property]);
            Check.due("previous", layout.setProperty(1, property, HIGHEST[property]), LOWEST[property]);
            Check.due("highest", layout.property(1, property), HIGHEST[property]);
            Check.due("item 0 is not touched", layout.property(0, property),
                    property == Make.CROSS ? 10 : FIRST[property]);
            Check.due("item 2 is not touched", layout.property(2, property),
                    property == Make.CROSS ? 10 : FIRST[property]);
        }
    }

    private static void wrongProperties() {
        FlexLayout layout = Make.row(100, 0);
        for (int property = 0; property < 10; property++) {
            int asked = property;
            int[] wrongs = {LOWEST[property] - 1, HIGHEST[property] + 1, Integer.MIN_VALUE, Integer.MAX_VALUE};
            int before = layout.property(0, property);
            for (int value : wrongs) {
                Check.thrown("property " + property + " to " + value, IllegalArgumentException.class,
                        () -> layout.setProperty(0, asked, value));
            }
            Check.due("unchanged", layout.property(0, property), before);
        }
        for (int wrong : new int[] {-1, 10, 20, Integer.MIN_VALUE, Integer.MAX_VALUE}) {
            Check.thrown("property", IndexOutOfBoundsException.class, () -> layout.property(0, wrong));
            Check.thrown("item", IndexOutOfBoundsException.class, () -> layout.property(wrong, 0));
            Check.thrown("set property", IndexOutOfBoundsException.class, () -> layout.setProperty(0, wrong, 0));
            Check.thrown("set item", IndexOutOfBoundsException.class, () -> layout.setProperty(wrong, 0, 0));
            Check.thrown("index before value", IndexOutOfBoundsException.class,
                    () -> layout.setProperty(wrong, 0, -5));
            Check.thrown("index before value", IndexOutOfBoundsException.class,
                    () -> layout.setProperty(0, wrong, -99));
        }
        Check.thrown("item 1 of 1", IndexOutOfBoundsException.class, () -> layout.property(1, 0));
        Check.thrown("set item 1 of 1", IndexOutOfBoundsException.class, () -> layout.setProperty(1, 0, 0));
    }
}
