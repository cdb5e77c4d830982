/** Promises 28 and 29: save and restore. */
public final class SaveTest {
    public static void main(String[] args) {
        nothingSaved();
        everythingComesBack();
        staysSaved();
        bufferIsNotSaved();
        Check.end();
    }

    private static void nothingSaved() {
        FlexLayout layout = Make.row(50, 1);
        Check.thrown("nothing was saved", IllegalStateException.class, layout::restore);
        Check.due("items stay", layout.items(), 1);
        Check.due("the main size stays", layout.setMainSize(3), 50);
        FlexLayout empty = new FlexLayout();
        Check.due("save nothing but the container", empty.save(), 0);
        empty.addItem(1, 1);
        Check.due("restore it", empty.restore(), 0);
        Check.due("no items", empty.items(), 0);
    }

    private static void everythingComesBack() {
        FlexLayout layout = Make.row(50, 11, 22, 33);
        int[] values = {15, 3, 4, 5, 600, 7, 8, 2, -6, 0};
        for (int property = 0; property < 10; property++) {
            layout.setProperty(1, property, values[property]);
        }
        layout.setCrossSize(60);
        layout.setGaps(7, 8);
        for (int setting = 0; setting < 5; setting++) {
            layout.setSetting(setting, 2);
        }
        Check.due("save", layout.save(), 3);
        Check.due("saving changes nothing", layout.items(), 3);
        layout.removeItem(1);
        layout.removeItem(0);
        layout.setProperty(0, Make.BASIS, 1);
        layout.setMainSize(1);
        layout.setCrossSize(FlexLayout.AUTO);
        layout.setGaps(1, 1);
        for (int setting = 0; setting < 5; setting++) {
            layout.setSetting(setting, 1);
        }
        Check.due("restore", layout.restore(), 3);
        Check.due("items", layout.items(), 3);
        for (int property = 0; property < 10; property++) {
            Check.due("property " + property, layout.property(1, property), values[property]);
        }
        Check.due("item 0", layout.property(0, Make.BASIS), 11);
        Check.due("item 2", layout.property(2, Make.BASIS), 33);
        Check.due("main size", layout.setMainSize(9), 50);
        Check.due("cross size", layout.setCrossSize(9), 60);
        Check.due("gaps", layout.setGaps(9, 9), 708);
        for (int setting = 0; setting < 5; setting++) {
            Check.due("setting " + setting, layout.setSetting(setting, 0), 2);
        }
    }

    private static void staysSaved() {
        FlexLayout layout = Make.row(50, 1, 2);
        layout.save();
        for (int time = 0; time < 3; time++) {
            layout.setProperty(0, Make.BASIS, 70 + time);
            layout.setMainSize(80 + time);
            layout.setSetting(Make.WRAP, 1);
            layout.addItem(3, 3);
            Check.due("restore again", layout.restore(), 2);
            Check.due("basis", layout.property(0, Make.BASIS), 1);
            Check.due("main size", layout.setMainSize(99), 50);
            Check.due("wrap", layout.setSetting(Make.WRAP, 2), 0);
        }
        layout.removeItem(0);
        Check.due("save in place of it", layout.save(), 1);
        layout.addItem(5, 5);
        Check.due("the later one is restored", layout.restore(), 1);
        Check.due("its basis", layout.property(0, Make.BASIS), 2);
        for (int item = 1; item < 20; item++) {
            layout.addItem(item, item);
        }
        Check.due("save 20", layout.save(), 20);
        layout.removeItem(0);
        Check.due("restore 20", layout.restore(), 20);
        Check.thrown("and no more", IllegalStateException.class, () -> layout.addItem(1, 1));
    }

    private static void bufferIsNotSaved() {
        FlexLayout layout = new FlexLayout();
        Make.feedAll(layout, "b5");
        layout.save();
        Make.feedAll(layout, "6");
        layout.restore();
        Check.due("the buffer stays as it is", layout.readItem(), 0);
        Check.due("and is read whole", layout.property(0, Make.BASIS), 56);
    }
}
