/** Promises 1 to 5: a new object, its sizes, gaps and settings. */
public final class ContainerTest {
    private static final int[] NO_SIZES = {-1, 10000, Integer.MIN_VALUE, Integer.MAX_VALUE};
    private static final int[] HIGHEST = {3, 2, 5, 4, 6};

    public static void main(String[] args) {
        newObject();
        setMainSize();
        setCrossSize();
        setGaps();
        setSetting();
        Check.end();
    }

    private static void newObject() {
        FlexLayout fresh = new FlexLayout();
        Check.due("new items", fresh.items(), 0);
        Check.due("new lines", fresh.lines(), 0);
        Check.due("new cross extent", fresh.crossExtent(), 0);
        Check.due("new overlaps", fresh.overlaps(), 0);
        Check.thrown("new restore", IllegalStateException.class, fresh::restore);
        Check.thrown("new itemAt", IndexOutOfBoundsException.class, () -> fresh.itemAt(0));
        Check.thrown("new rounds", IndexOutOfBoundsException.class, () -> fresh.rounds(0));
        Check.due("new main size", fresh.setMainSize(7), 100);
        Check.due("new cross size", fresh.setCrossSize(7), FlexLayout.AUTO);
        Check.due("new gaps", fresh.setGaps(1, 2), 0);
        for (int setting = 0; setting < 5; setting++) {
            Check.due("new setting " + setting, fresh.setSetting(setting, 1), 0);
        }
        Check.due("new buffer", fresh.feed('b'), 1);
        FlexLayout other = new FlexLayout();
        Check.due("objects share nothing", other.setMainSize(1), 100);
        Check.due("AUTO", FlexLayout.AUTO, -1);
    }

    private static void setMainSize() {
        FlexLayout layout = new FlexLayout();
        for (int size : NO_SIZES) {
            Check.thrown("setMainSize " + size, IllegalArgumentException.class, () -> layout.setMainSize(size));
        }
        Check.due("after wrong main sizes", layout.setMainSize(0), 100);
        Check.due("from 0", layout.setMainSize(9999), 0);
        Check.due("from 9999", layout.setMainSize(50), 9999);
        layout.addItem(80, 1);
        Check.due("the main size is used", layout.box(0, Make.WIDTH), 50);
    }

    private static void setCrossSize() {
        FlexLayout layout = new FlexLayout();
        for (int size : new int[] {-2, 10000, Integer.MIN_VALUE, Integer.MAX_VALUE}) {
            Check.thrown("setCrossSize " + size, IllegalArgumentException.class, () -> layout.setCrossSize(size));
        }
        Check.due("after wrong cross sizes", layout.setCrossSize(0), -1);
        Check.due("cross from 0", layout.setCrossSize(9999), 0);
        Check.due("cross from 9999", layout.setCrossSize(30), 9999);
        layout.addItem(10, 5);
        Check.due("the cross size is used", layout.crossExtent(), 30);
        Check.due("cross from 30", layout.setCrossSize(FlexLayout.AUTO), 30);
        Check.due("automatic again", layout.crossExtent(), 5);
        Check.due("cross from automatic", layout.setCrossSize(1), -1);
    }

    private static void setGaps() {
        FlexLayout layout = new FlexLayout();
        int[][] wrongs = {{-1, 0}, {0, -1}, {100, 0}, {0, 100}, {Integer.MIN_VALUE, 5}, {5, Integer.MAX_VALUE}};
        for (int[] gaps : wrongs) {
            Check.thrown("setGaps " + gaps[0] + " " + gaps[1], IllegalArgumentException.class,
                    () -> layout.setGaps(gaps[0], gaps[1]));
        }
        Check.due("after wrong gaps", layout.setGaps(99, 7), 0);
        Check.due("from 99 7", layout.setGaps(3, 99), 9907);
        Check.due("from 3 99", layout.setGaps(4, 6), 399);
        layout.setSetting(Make.WRAP, 1);
        layout.addItem(50, 10);
        layout.addItem(46, 10);
        layout.addItem(100, 10);
        Check.due("main gap", layout.box(1, Make.X), 54);
        Check.due("cross gap", layout.box(2, Make.Y), 16);
    }

    private static void setSetting() {
        FlexLayout layout = new FlexLayout();
        for (int setting = 0; setting < 5; setting++) {
            int asked = setting;
            int highest = HIGHEST[setting];
            for (int value : new int[] {-1, highest + 1, Integer.MIN_VALUE, Integer.MAX_VALUE}) {
                Check.thrown("setSetting " + setting + " to " + value, IllegalArgumentException.class,
                        () -> layout.setSetting(asked, value));
            }
            Check.due("setting " + setting + " unchanged", layout.setSetting(setting, 0), 0);
            for (int value = 1; value <= highest; value++) {
                Check.due("setting " + setting + " to " + value, layout.setSetting(setting, value), value - 1);
            }
            Check.due("setting " + setting + " back", layout.setSetting(setting, 0), highest);
        }
        for (int setting : new int[] {-1, 5, Integer.MIN_VALUE, Integer.MAX_VALUE}) {
            Check.thrown("setting " + setting, IndexOutOfBoundsException.class, () -> layout.setSetting(setting, 0));
            Check.thrown("setting " + setting + ", no value either", IndexOutOfBoundsException.class,
                    () -> layout.setSetting(setting, -1));
        }
    }
}
