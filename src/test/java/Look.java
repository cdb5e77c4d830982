import java.util.NoSuchElementException;
import java.util.function.Supplier;
import java.util.function.ToLongFunction;

/** Looks at the whole state of an object, and shows that a refused call leaves it as it was. */
final class Look {
    static final Class<IllegalArgumentException> ARGUMENT = IllegalArgumentException.class;
    static final Class<IllegalStateException> STATE = IllegalStateException.class;
    static final Class<IndexOutOfBoundsException> INDEX = IndexOutOfBoundsException.class;
    static final Class<NoSuchElementException> ELEMENT = NoSuchElementException.class;
    static final Class<ArithmeticException> ARITHMETIC = ArithmeticException.class;

    private Look() {
    }

    /** An object with something in each part of its state: four items, a text in the buffer, and two saved items. */
    static FlexLayout rich() {
        FlexLayout layout = Make.row(33, 5, 6);
        layout.setGaps(8, 9);
        layout.save();
        layout.setMainSize(70);
        layout.setCrossSize(40);
        layout.setGaps(3, 4);
        int[] settings = {1, 2, 3, 4, 5};
        for (int setting = 0; setting < 5; setting++) {
            layout.setSetting(setting, settings[setting]);
        }
        layout.addItem(40, 7);
        layout.addItem(50, 8);
        Make.setAll(layout, Make.GROW, 0, 1, 2, 3);
        Make.setAll(layout, Make.ORDER, 3, 0, 1, 0);
        Make.setAll(layout, Make.ASCENT, 2, 4, 6, 8);
        layout.setProperty(1, Make.ALIGN, 2);
        layout.setProperty(3, Make.MAXIMUM, 45);
        Make.feedAll(layout, "b42 g7");
        return layout;
    }

    static FlexLayout richWith20Items() {
        FlexLayout layout = rich();
        while (layout.items() < 20) {
            layout.addItem(layout.items(), 2);
        }
        return layout;
    }

    static FlexLayout richWithFullBuffer() {
        FlexLayout layout = rich();
        Make.feedAll(layout, " c0001".repeat(11) + " c001 g3");
        return layout;
    }

    /** The call must throw this very exception, and leave all that can be seen as it was. */
    static void refused(String name, Supplier<FlexLayout> maker, Class<? extends RuntimeException> want,
            ToLongFunction<FlexLayout> call) {
        FlexLayout asked = maker.get();
        Check.thrown(name, want, () -> call.applyAsLong(asked));
        Check.same(name + " must change nothing", everything(asked), everything(maker.get()));
    }

    /** Changes the object, for the buffer and the saved items can only be seen by calls that do. */
    private static String everything(FlexLayout layout) {
        StringBuilder seen = new StringBuilder();
        container(layout, seen);
        items(layout, seen);
        layOut(layout, seen);
        buffer(layout, seen);
        saved(layout, seen);
        return seen.toString();
    }

    private static void container(FlexLayout layout, StringBuilder seen) {
        int main = layout.setMainSize(0);
        layout.setMainSize(main);
        int cross = layout.setCrossSize(0);
        layout.setCrossSize(cross);
        int gaps = layout.setGaps(0, 0);
        layout.setGaps(gaps / 100, gaps % 100);
        seen.append("W ").append(main).append(" H ").append(cross).append(" gaps ").append(gaps);
        for (int setting = 0; setting < 5; setting++) {
            int value = layout.setSetting(setting, 0);
            layout.setSetting(setting, value);
            seen.append(" setting ").append(value);
        }
    }

    private static void items(FlexLayout layout, StringBuilder seen) {
        for (int item = 0; item < layout.items(); item++) {
            seen.append("\nitem ").append(item).append(':');
            for (int property = 0; property < 10; property++) {
                seen.append(' ').append(layout.property(item, property));
            }
        }
    }

    private static void layOut(FlexLayout layout, StringBuilder seen) {
        seen.append("\nlines ").append(layout.lines()).append(" extent ").append(layout.crossExtent());
        for (int item = 0; item < layout.items(); item++) {
            seen.append(" box ").append(layout.box(item, 0)).append(' ').append(layout.box(item, 1));
        }
    }

    private static void buffer(FlexLayout layout, StringBuilder seen) {
        if (layout.items() == 20) {
            layout.removeItem(19);
        }
        int read = layout.readItem();
        seen.append("\nread ").append(read);
        for (int property = 0; read >= 0 && property < 10; property++) {
            seen.append(' ').append(layout.property(read, property));
        }
    }

    private static void saved(FlexLayout layout, StringBuilder seen) {
        try {
            seen.append("\nsaved ").append(layout.restore()).append(": ");
            container(layout, seen);
            items(layout, seen);
        } catch (IllegalStateException e) {
            seen.append("\nnothing saved");
        }
    }
}
