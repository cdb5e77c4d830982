/** Edges of the promises whose calls change the object: 1 to 12, 28 and 29. */
final class ChangeEdges {
    private static final int[] FAR = {Integer.MIN_VALUE, Integer.MAX_VALUE};

    private ChangeEdges() {
    }

    static void run() {
        newObject();
        setMainSize();
        setCrossSize();
        setGaps();
        setSetting();
        addItem();
        removeItem();
        items();
        setProperty();
        property();
        feed();
        readItem();
        grammar();
        errorPositions();
        numbers();
        bufferAfterwards();
        save();
        restore();
    }

    private static void newObject() {
        Sentence.section(1);
        Sentence.test("Creates an empty container.", () -> {
            FlexLayout layout = new FlexLayout();
            Check.due("items", layout.items(), 0);
            Check.due("lines", layout.lines(), 0);
            Check.due("cross extent", layout.crossExtent(), 0);
            Check.due("overlaps", layout.overlaps(), 0);
            Check.due("narrowest", layout.narrowest(1), 0);
            Check.due("an empty text", layout.readItem(), -100);
            Check.thrown("no item", Look.INDEX, () -> layout.property(0, 0));
            Check.thrown("no place", Look.INDEX, () -> layout.itemAt(0));
            Check.thrown("no line", Look.INDEX, () -> layout.freeSpace(0));
            Check.thrown("no box", Look.ELEMENT, () -> layout.itemUnder(0, 0));
            Check.thrown("nothing saved", Look.STATE, layout::restore);
            Check.due("first main size", layout.setMainSize(1), 100);
            Check.due("first cross size", layout.setCrossSize(1), FlexLayout.AUTO);
            Check.due("first gaps", layout.setGaps(1, 1), 0);
            for (int setting = 0; setting < 5; setting++) {
                Check.due("first setting " + setting, layout.setSetting(setting, 1), 0);
            }
            layout.addItem(1, 1);
            layout.save();
            layout.feed('b');
            FlexLayout other = new FlexLayout();
            Check.due("another object has items of its own", other.items(), 0);
            Check.due("a buffer", other.feed('b'), 1);
            Check.due("a size", other.setMainSize(1), 100);
            Check.thrown("and nothing saved", Look.STATE, other::restore);
        });
    }

    private static void setMainSize() {
        Sentence.section(2);
        Sentence.test("Sets the main size W.", () -> {
            FlexLayout layout = Make.row(50, 0);
            layout.setProperty(0, Make.GROW, 1);
            Make.boxes("it is used", layout, Make.WIDTH, 50);
        });
        Sentence.test("size: the size, 0 to 9999", () -> {
            FlexLayout layout = Make.row(0, 0);
            Check.due("0", layout.freeSpace(0), 0);
            layout.setMainSize(9999);
            Check.due("9999", layout.freeSpace(0), 9999);
        });
        Sentence.test("Returns the previous size.", () -> {
            FlexLayout layout = new FlexLayout();
            int[] sizes = {100, 0, 9999, 9999, 1, 100};
            for (int i = 1; i < sizes.length; i++) {
                Check.due("to " + sizes[i], layout.setMainSize(sizes[i]), sizes[i - 1]);
            }
        });
        Sentence.test("Throws IllegalArgumentException if the size is out of range", () -> {
            Look.refused("-1", Look::rich, Look.ARGUMENT, x -> x.setMainSize(-1));
            Look.refused("10000", Look::rich, Look.ARGUMENT, x -> x.setMainSize(10000));
            for (int far : FAR) {
                Look.refused("far", Look::rich, Look.ARGUMENT, x -> x.setMainSize(far));
            }
        });
    }

    private static void setCrossSize() {
        Sentence.section(3);
        Sentence.test("Sets the cross size H.", () -> {
            FlexLayout layout = Make.row(50, 0);
            layout.setCrossSize(44);
            Make.boxes("it is used", layout, Make.HEIGHT, 44);
        });
        Sentence.test("size: the size, 0 to 9999, or AUTO", () -> {
            FlexLayout layout = Make.row(50, 0);
            layout.setCrossSize(0);
            Check.due("0", layout.crossExtent(), 0);
            layout.setCrossSize(9999);
            Check.due("9999", layout.crossExtent(), 9999);
            layout.setCrossSize(FlexLayout.AUTO);
            Check.due("AUTO", layout.crossExtent(), 10);
        });
        Sentence.test("Returns the previous size, or AUTO.", () -> {
            FlexLayout layout = new FlexLayout();
            int[] sizes = {-1, 0, 9999, -1, -1, 100};
            for (int i = 1; i < sizes.length; i++) {
                Check.due("to " + sizes[i], layout.setCrossSize(sizes[i]), sizes[i - 1]);
            }
        });
        Sentence.test("Throws IllegalArgumentException if the size is out of range", () -> {
            Look.refused("-2", Look::rich, Look.ARGUMENT, x -> x.setCrossSize(-2));
            Look.refused("10000", Look::rich, Look.ARGUMENT, x -> x.setCrossSize(10000));
            for (int far : FAR) {
                Look.refused("far", Look::rich, Look.ARGUMENT, x -> x.setCrossSize(far));
            }
        });
    }

    private static void setGaps() {
        Sentence.section(4);
        Sentence.test("Sets both gaps. main: the main gap, 0 to 99 cross: the cross gap, 0 to 99", () -> {
            FlexLayout layout = Make.linesOf(10, 10);
            layout.setGaps(0, 99);
            Make.boxes("cross", layout, Make.Y, 0, 109);
            layout.setGaps(99, 0);
            Make.boxes("no cross gap", layout, Make.Y, 0, 10);
            layout.setMainSize(119);
            Make.boxes("main", layout, Make.X, 0, 109);
            layout.setGaps(0, 0);
            Make.boxes("no main gap", layout, Make.X, 0, 10);
        });
        Sentence.test("Returns 100 times the previous main gap plus the previous cross gap.", () -> {
            FlexLayout layout = new FlexLayout();
            Check.due("at first", layout.setGaps(0, 99), 0);
            Check.due("0 and 99", layout.setGaps(99, 0), 99);
            Check.due("99 and 0", layout.setGaps(99, 99), 9900);
            Check.due("99 and 99", layout.setGaps(1, 2), 9999);
            Check.due("1 and 2", layout.setGaps(0, 0), 102);
        });
        Sentence.test("Throws IllegalArgumentException if a gap is out of range", () -> {
            int[][] wrongs = {{-1, 0}, {100, 99}, {0, -1}, {99, 100}, {-1, -1}, {100, 100}, {FAR[0], 0}, {0, FAR[0]},
                {FAR[1], 0}, {0, FAR[1]}};
            for (int[] wrong : wrongs) {
                Look.refused(wrong[0] + " " + wrong[1], Look::rich, Look.ARGUMENT,
                        x -> x.setGaps(wrong[0], wrong[1]));
            }
        });
    }

    private static void setSetting() {
        int[] highest = {3, 2, 5, 4, 6};
        Sentence.section(5);
        Sentence.test("Sets a setting of the container. setting: 0 direction, 1 wrap, 2 justify, 3 items, 4 content",
                () -> {
            FlexLayout direction = Make.row(100, 30);
            direction.setSetting(0, 1);
            Make.boxes("0 direction", direction, Make.X, 70);
            FlexLayout wrap = Make.row(30, 30, 30);
            wrap.setSetting(1, 1);
            Check.due("1 wrap", wrap.lines(), 2);
            FlexLayout justify = Make.row(100, 30);
            justify.setSetting(2, 1);
            Make.boxes("2 justify", justify, Make.X, 70);
            FlexLayout items = Make.row(100, 30);
            items.setCrossSize(50);
            items.setSetting(3, 2);
            Make.boxes("3 items", items, Make.Y, 40);
            FlexLayout content = Make.linesOf(10);
            content.setCrossSize(50);
            content.setSetting(4, 2);
            Make.boxes("4 content", content, Make.Y, 40);
        });
        Sentence.test("value: the new value Returns the previous value.", () -> {
            FlexLayout layout = new FlexLayout();
            for (int value = 0; value <= 6; value++) {
                for (int setting = 0; setting < 5; setting++) {
                    if (value <= highest[setting]) {
                        Check.due("setting " + setting + " to " + value, layout.setSetting(setting, value),
                                Math.max(0, value - 1));
                    }
                }
            }
            for (int setting = 0; setting < 5; setting++) {
                Check.due("highest of " + setting, layout.setSetting(setting, 0), highest[setting]);
            }
        });
        Sentence.test("Throws IndexOutOfBoundsException if there is no such setting", () -> {
            Look.refused("-1", Look::rich, Look.INDEX, x -> x.setSetting(-1, 0));
            Look.refused("5", Look::rich, Look.INDEX, x -> x.setSetting(5, 0));
            for (int far : FAR) {
                Look.refused("far", Look::rich, Look.INDEX, x -> x.setSetting(far, 0));
            }
        });
        Sentence.test("Throws IllegalArgumentException if the setting cannot have this value", () -> {
            for (int i = 0; i < 5; i++) {
                int setting = i;
                for (int value : new int[] {-1, highest[setting] + 1, FAR[0], FAR[1]}) {
                    Look.refused(setting + " to " + value, Look::rich, Look.ARGUMENT,
                            x -> x.setSetting(setting, value));
                }
            }
        });
    }

    private static void properties(String name, FlexLayout layout, int item, int... wants) {
        for (int property = 0; property < 10; property++) {
            Check.due(name + ": property " + property, layout.property(item, property), wants[property]);
        }
    }

    private static FlexLayout fullOf(int basis, int cross) {
        FlexLayout layout = new FlexLayout();
        for (int item = 0; item < 20; item++) {
            layout.addItem(basis, cross);
        }
        return layout;
    }

    private static void addItem() {
        Sentence.section(6);
        Sentence.test("Adds an item with the first values of all properties except basis and cross. basis: the basis, "
                + "0 to 9999 cross: the cross size, 0 to 9999", () -> {
            FlexLayout layout = new FlexLayout();
            layout.addItem(0, 9999);
            layout.addItem(9999, 0);
            properties("0 and 9999", layout, 0, 0, 0, 1, 0, -1, 9999, 0, -1, 0, 1);
            properties("9999 and 0", layout, 1, 9999, 0, 1, 0, -1, 0, 0, -1, 0, 1);
            for (int property = 0; property < 10; property++) {
                layout.setProperty(1, property, property < 7 ? 5 : 0);
            }
            layout.removeItem(1);
            layout.addItem(1, 2);
            properties("in the place of a removed one", layout, 1, 1, 0, 1, 0, -1, 2, 0, -1, 0, 1);
        });
        Sentence.test("Returns the number of the item.", () -> {
            FlexLayout layout = fullOf(1, 1);
            layout.removeItem(5);
            Check.due("the last number", layout.addItem(3, 3), 19);
            Check.due("the first number", new FlexLayout().addItem(3, 3), 0);
        });
        Sentence.test("Throws IllegalArgumentException if an argument is out of range", () -> {
            int[][] wrongs = {{-1, 0}, {10000, 0}, {0, -1}, {0, 10000}, {-1, 10000}, {FAR[0], 1}, {FAR[1], 1},
                {1, FAR[0]}, {1, FAR[1]}};
            for (int[] wrong : wrongs) {
                Look.refused(wrong[0] + " " + wrong[1], Look::rich, Look.ARGUMENT,
                        x -> x.addItem(wrong[0], wrong[1]));
            }
            Look.refused("out of range and no room", Look::richWith20Items, Look.ARGUMENT, x -> x.addItem(-1, 0));
        });
        Sentence.test("Throws IllegalStateException if there are 20 items", () -> {
            Look.refused("full", Look::richWith20Items, Look.STATE, x -> x.addItem(1, 1));
            FlexLayout layout = fullOf(1, 1);
            layout.removeItem(0);
            Check.due("19 are not too many", layout.addItem(1, 1), 19);
            Check.thrown("full again", Look.STATE, () -> layout.addItem(1, 1));
        });
    }

    private static void removeItem() {
        Sentence.section(7);
        Sentence.test("Removes an item. The items with higher numbers get numbers that are lower by 1. item: the item",
                () -> {
            FlexLayout layout = fullOf(0, 0);
            for (int item = 0; item < 20; item++) {
                layout.setProperty(item, Make.BASIS, item);
                layout.setProperty(item, Make.ASCENT, 50 + item);
            }
            layout.removeItem(19);
            Check.due("the last: the others stay", layout.property(18, Make.BASIS), 18);
            layout.removeItem(0);
            Check.due("the first: the others move", layout.property(0, Make.BASIS), 1);
            layout.removeItem(9);
            for (int item = 0; item < 17; item++) {
                int was = item < 9 ? item + 1 : item + 2;
                Check.due("basis of " + item, layout.property(item, Make.BASIS), was);
                Check.due("ascent of " + item, layout.property(item, Make.ASCENT), 50 + was);
            }
            FlexLayout pair = Make.row(100, 1);
            Make.read(pair, "b1 g2 s3 m4 x5 c6 a7 l4 o9 t0");
            pair.removeItem(0);
            properties("all properties move", pair, 0, 1, 2, 3, 4, 5, 6, 7, 4, 9, 0);
        });
        Sentence.test("Returns the number of items that remain.", () -> {
            FlexLayout layout = fullOf(1, 1);
            for (int remain = 19; remain >= 0; remain--) {
                Check.due("remain", layout.removeItem(remain / 2), remain);
            }
        });
        Sentence.test("Throws IndexOutOfBoundsException if there is no such item", () -> {
            for (int item : new int[] {-1, 4, 19, 20, FAR[0], FAR[1]}) {
                Look.refused("item " + item, Look::rich, Look.INDEX, x -> x.removeItem(item));
            }
            Look.refused("20 of 20", Look::richWith20Items, Look.INDEX, x -> x.removeItem(20));
            Look.refused("0 of none", FlexLayout::new, Look.INDEX, x -> x.removeItem(0));
        });
    }

    private static void items() {
        Sentence.section(8);
        Sentence.test("Returns the number of items.", () -> {
            FlexLayout layout = new FlexLayout();
            Check.due("empty", layout.items(), 0);
            layout.readItem();
            Check.due("a wrong text adds none", layout.items(), 0);
            for (int item = 0; item < 20; item++) {
                layout.addItem(1, 1);
                Check.due("added", layout.items(), item + 1);
            }
            Check.thrown("full", Look.STATE, () -> layout.addItem(1, 1));
            Check.due("full", layout.items(), 20);
            layout.removeItem(19);
            Check.due("removed", layout.items(), 19);
        });
    }

    private static void setProperty() {
        int[] lowest = {0, 0, 0, 0, -1, 0, 0, -1, -9, 0};
        int[] highest = {9999, 99, 99, 9999, 9999, 9999, 9999, 4, 9, 1};
        Sentence.section(9);
        Sentence.test("Sets a property of an item. item: the item property: the property, 0 to 9 value: the new value",
                () -> {
            FlexLayout layout = fullOf(7, 7);
            for (int property = 0; property < 10; property++) {
                layout.setProperty(19, property, highest[property]);
            }
            properties("highest", layout, 19, highest);
            for (int property = 0; property < 10; property++) {
                layout.setProperty(19, property, lowest[property]);
            }
            properties("lowest", layout, 19, lowest);
            properties("another item", layout, 18, 7, 0, 1, 0, -1, 7, 0, -1, 0, 1);
        });
        Sentence.test("Returns the previous value.", () -> {
            FlexLayout layout = Make.row(100, 3);
            int[] firsts = {3, 0, 1, 0, -1, 10, 0, -1, 0, 1};
            for (int property = 0; property < 10; property++) {
                Check.due("first", layout.setProperty(0, property, lowest[property]), firsts[property]);
                Check.due("lowest", layout.setProperty(0, property, highest[property]), lowest[property]);
                Check.due("highest", layout.setProperty(0, property, highest[property]), highest[property]);
            }
        });
        Sentence.test("Throws IndexOutOfBoundsException if there is no such item or property", () -> {
            for (int item : new int[] {-1, 4, 20, FAR[0], FAR[1]}) {
                Look.refused("item " + item, Look::rich, Look.INDEX, x -> x.setProperty(item, 1, 1));
            }
            for (int property : new int[] {-1, 10, FAR[0], FAR[1]}) {
                Look.refused("property " + property, Look::rich, Look.INDEX, x -> x.setProperty(0, property, 1));
            }
            Look.refused("item 20 of 20", Look::richWith20Items, Look.INDEX, x -> x.setProperty(20, 1, 1));
            Look.refused("item 0 of none", FlexLayout::new, Look.INDEX, x -> x.setProperty(0, 1, 1));
        });
        Sentence.test("Throws IllegalArgumentException if the property cannot have this value", () -> {
            for (int i = 0; i < 10; i++) {
                int property = i;
                for (int value : new int[] {lowest[i] - 1, highest[i] + 1, FAR[0], FAR[1]}) {
                    Look.refused(property + " to " + value, Look::rich, Look.ARGUMENT,
                            x -> x.setProperty(1, property, value));
                }
            }
        });
    }

    private static void property() {
        Sentence.section(10);
        Sentence.test("Returns a property of an item. item: the item property: the property, 0 to 9 Returns the value.",
                () -> {
            FlexLayout layout = new FlexLayout();
            Make.read(layout, "b1 g2 s3 m4 x5 c6 a7 l4 o9 t0");
            properties("the first of one", layout, 0, 1, 2, 3, 4, 5, 6, 7, 4, 9, 0);
            FlexLayout full = fullOf(8, 9);
            properties("the last of 20", full, 19, 8, 0, 1, 0, -1, 9, 0, -1, 0, 1);
        });
        Sentence.test("Throws IndexOutOfBoundsException if there is no such item or property", () -> {
            for (int item : new int[] {-1, 4, 20, FAR[0], FAR[1]}) {
                Look.refused("item " + item, Look::rich, Look.INDEX, x -> x.property(item, 1));
            }
            for (int property : new int[] {-1, 10, FAR[0], FAR[1]}) {
                Look.refused("property " + property, Look::rich, Look.INDEX, x -> x.property(0, property));
            }
            Look.refused("item 20 of 20", Look::richWith20Items, Look.INDEX, x -> x.property(20, 1));
            Look.refused("item 0 of none", FlexLayout::new, Look.INDEX, x -> x.property(0, 1));
        });
    }

    private static void feed() {
        Sentence.section(11);
        Sentence.test("Appends a character to the input buffer.", () -> {
            FlexLayout layout = new FlexLayout();
            Make.feedAll(layout, "b12");
            layout.feed('3');
            layout.readItem();
            Check.due("at the end", layout.property(0, Make.BASIS), 123);
        });
        Sentence.test("letter: any character", () -> {
            FlexLayout layout = new FlexLayout();
            for (char letter : new char[] {0, '\n', ' ', 127, 128, 255, 256, 0xd800, 0xffff}) {
                Check.due("character " + (int) letter, layout.feed(letter), 1);
                Check.due("it cannot begin a text", layout.readItem(), -100);
            }
            for (char letter : new char[] {'b' + 256, 'b' - 32, 0, 0xffff}) {
                Check.due("fed", Make.read(layout, letter + "1"), -100);
            }
            for (char letter : new char[] {'1' + 256, '0' - 1, '9' + 1, 0x661, 0xff11}) {
                Check.due("no digit", Make.read(layout, "b" + letter), -101);
            }
        });
        Sentence.test("Returns the number of characters in the buffer.", () -> {
            FlexLayout layout = new FlexLayout();
            for (int length = 1; length <= 80; length++) {
                Check.due("length", layout.feed('b'), length);
            }
            layout.readItem();
            Check.due("emptied", layout.feed('b'), 1);
        });
        Sentence.test("Throws IllegalStateException if the buffer already holds 80 characters", () -> {
            FlexLayout layout = new FlexLayout();
            Make.feedAll(layout, "b0001 ".repeat(13) + "g");
            Check.due("the 80th", layout.feed('5'), 80);
            Check.thrown("the 81st", Look.STATE, () -> layout.feed('6'));
            Check.thrown("the 81st again", Look.STATE, () -> layout.feed('7'));
            Check.due("the text is kept", layout.readItem(), 0);
            Check.due("and has its 80 characters", layout.property(0, Make.GROW), 5);
            Look.refused("full", Look::richWithFullBuffer, Look.STATE, x -> x.feed('6'));
        });
    }

    private static void readItem() {
        Sentence.section(12);
        Sentence.test("Reads the input buffer as an item and adds it.", () -> {
            FlexLayout layout = Make.row(100, 1);
            Make.read(layout, "o-9");
            properties("first values but for what is set", layout, 1, 0, 0, 1, 0, -1, 0, 0, -1, -9, 1);
            Check.due("it is in the layout", layout.itemAt(0), 1);
            Make.read(layout, "g9 b5 z");
            Make.read(layout, "s0");
            properties("nothing stays of a wrong text", layout, 2, 0, 0, 0, 0, -1, 0, 0, -1, 0, 1);
            Make.read(layout, "g9 b5 t2");
            Make.read(layout, "s0");
            properties("nothing stays of a wrong number", layout, 3, 0, 0, 0, 0, -1, 0, 0, -1, 0, 1);
        });
        Sentence.test("Returns the number of the item; -100 minus the error position after an error.", () -> {
            FlexLayout layout = new FlexLayout();
            for (int item = 0; item < 20; item++) {
                Check.due("number", Make.read(layout, "b" + item), item);
            }
            layout.removeItem(3);
            Check.due("the lowest error", layout.readItem(), -100);
            Check.due("the highest error", Make.read(layout, "b0001 ".repeat(13) + "g-"), -180);
            Check.due("one less", Make.read(layout, "b0001 ".repeat(13) + "gg"), -179);
            Check.due("the number after errors", Make.read(layout, "b1"), 19);
        });
        Sentence.test("Throws IllegalStateException if there are 20 items", () -> {
            FlexLayout layout = fullOf(1, 1);
            Make.feedAll(layout, "b1");
            Check.thrown("a right text", Look.STATE, layout::readItem);
            layout.feed(' ');
            Check.thrown("a wrong text", Look.STATE, layout::readItem);
            Check.thrown("an empty text", Look.STATE, () -> fullOf(1, 1).readItem());
            layout.feed('c');
            layout.feed('2');
            layout.removeItem(0);
            Check.due("19 are not too many", layout.readItem(), 19);
        });
    }

    private static void grammar() {
        Sentence.test("The text is a sequence of one or more settings with one space between two of them.", () -> {
            errors("", 0, " ", 0, " b1", 0, "b1 ", 3, "b1  c1", 3, "b1c1", 2, "b1,c1", 2, "b1\tc1", 2, "b1 c1 ", 6);
            rights("b1", "b1 c1", "b1 c1 g1", "b1 c1 g1 s1 m1 x1 a1 l1 o1 t1");
        });
        Sentence.test("A setting is a letter for a property and a number: b basis, g grow, s shrink, m minimum, x "
                + "maximum, c cross, a ascent, l align, o order, t stretchable.", () -> {
            FlexLayout layout = new FlexLayout();
            Make.read(layout, "t0 o8 l3 a60 c50 x40 m30 s20 g10 b5");
            properties("all letters", layout, 0, 5, 10, 20, 30, 40, 50, 60, 3, 8, 0);
            errors("d1", 0, "B1", 0, "1", 0, "-1", 0, "u1", 0, "b1 y1", 3, "b", 1, "bb1", 1);
            String letters = "bgsmxcalot";
            for (char letter = 'a'; letter <= 'z'; letter++) {
                Check.due("letter " + letter, Make.read(layout, letter + "1") >= 0, letters.indexOf(letter) >= 0);
            }
        });
        Sentence.test("The number has 1 to 4 digits, possibly with a minus sign ahead of them.", () -> {
            rights("b1", "b12", "b123", "b1234", "b9999", "b0000", "b-0", "b-0000", "o-9", "o-09", "o-009", "o-0009");
            errors("b", 1, "b ", 1, "b-", 2, "b- 1", 2, "b--1", 2, "b1-", 2, "b1-2", 2, "b+1", 1, "b12345", 5,
                    "b00000", 5, "b-12345", 6, "b1.5", 2, "b-1-", 3);
        });
        Sentence.test("A property may be set more than once; then its last value holds.", () -> {
            FlexLayout layout = new FlexLayout();
            Make.read(layout, "b1 b2");
            Check.due("twice", layout.property(0, Make.BASIS), 2);
            Make.read(layout, "b9 g1 b0 g2 b7 x5 x-1");
            Check.due("three times", layout.property(1, Make.BASIS), 7);
            Check.due("another one too", layout.property(1, Make.GROW), 2);
            Check.due("back to none", layout.property(1, Make.MAXIMUM), -1);
            Make.read(layout, "o1 ".repeat(26) + "o9");
            Check.due("27 times in 80 characters", layout.property(2, Make.ORDER), 9);
        });
    }

    private static void rights(String... texts) {
        FlexLayout layout = new FlexLayout();
        for (String text : texts) {
            Check.due("'" + text + "'", Make.read(layout, text), 0);
            layout.removeItem(0);
        }
    }

    /** Texts, each with the place of its error. */
    private static void errors(Object... textsAndPlaces) {
        FlexLayout layout = new FlexLayout();
        for (int i = 0; i < textsAndPlaces.length; i += 2) {
            String text = (String) textsAndPlaces[i];
            int place = (Integer) textsAndPlaces[i + 1];
            Check.due("'" + text + "'", Make.read(layout, text), -100 - place);
            Check.due("nothing is added by '" + text + "'", layout.items(), 0);
        }
    }

    private static void errorPositions() {
        Sentence.test("The error position is the place, from 0, of the first character that cannot continue such a "
                + "text,", () -> {
            errors("?", 0, "b?", 1, "b-?", 2, "b1?", 2, "b1 ?", 3, "b12?", 3, "b1234?", 5, "b1 c?", 4, "b1 c2?", 5,
                    "?b1", 0, "??", 0, "b12345 z", 5, "b1  z", 3, "bz-", 1);
        });
        Sentence.test("or the length of the text if it ends too early;", () -> {
            errors("", 0, "b", 1, "b-", 2, "b1 ", 3, "b1 c", 4, "b1 c-", 5, "b1 c1 ", 6);
            errors("b0001 ".repeat(13), 78, "b0001 ".repeat(13) + "b", 79, "b0001 ".repeat(13) + "b-", 80,
                    "b0001 ".repeat(12) + "b001 b1 ", 80);
        });
        Sentence.test("for a number that the property cannot have, it is the place of its letter.", () -> {
            errors("b-1", 0, "g100", 0, "g-1", 0, "s100", 0, "s-1", 0, "m-1", 0, "x-2", 0, "c-1", 0, "a-1", 0, "l5", 0,
                    "l-2", 0, "o10", 0, "o-10", 0, "t2", 0, "t-1", 0, "g9999", 0, "b-9999", 0);
            errors("b1 t2", 3, "b1234 o-9 l5", 10, "b0001 ".repeat(13) + "t2", 78);
            rights("b0", "b9999", "g0", "g99", "s0", "s99", "m0", "m9999", "x-1", "x0", "x9999", "c0", "c9999", "a0",
                    "a9999", "l-1", "l4", "o-9", "o9", "t0", "t1");
        });
    }

    private static void numbers() {
        Sentence.test("Numbers are checked only if the rest of the text is right, the first one first.", () -> {
            errors("t2 z", 3, "t2 b", 4, "t2 ", 3, "t2 b12345", 8, "t2?", 2, "b1 t2 g100 ?", 11);
            errors("t2 g100", 0, "g100 t2", 0, "b1 t2 g100", 3, "b1 g100 t2", 3);
            errors("t2 t1", 0, "b1 t2 t1", 3);
        });
    }

    private static void bufferAfterwards() {
        Sentence.test("The buffer is empty afterwards, even after an error;", () -> {
            FlexLayout layout = new FlexLayout();
            Make.read(layout, "b1");
            Check.due("after an item", layout.feed('b'), 1);
            layout.readItem();
            Check.due("after a wrong text", layout.feed('t'), 1);
            layout.feed('2');
            Check.due("a wrong number", layout.readItem(), -100);
            Check.due("after a wrong number", layout.feed('?'), 1);
            layout.readItem();
            layout.readItem();
            Check.due("after an empty text", layout.feed('b'), 1);
        });
        Sentence.test("it is kept if an exception is thrown.", () -> {
            FlexLayout layout = fullOf(1, 1);
            Make.feedAll(layout, "b5");
            Check.thrown("full", Look.STATE, layout::readItem);
            Check.thrown("full again", Look.STATE, layout::readItem);
            Check.due("kept", layout.feed('6'), 3);
            layout.removeItem(0);
            layout.readItem();
            Check.due("and read", layout.property(19, Make.BASIS), 56);
            Look.refused("full", Look::richWith20Items, Look.STATE, FlexLayout::readItem);
        });
    }

    private static void save() {
        Sentence.section(28);
        Sentence.test("Saves the container and all items, in place of those that were saved before.", () -> {
            FlexLayout layout = Look.rich();
            layout.save();
            Check.due("in place of the two items", layout.restore(), 4);
            FlexLayout empty = new FlexLayout();
            empty.save();
            empty.addItem(5, 5);
            empty.setMainSize(7);
            empty.save();
            empty.removeItem(0);
            empty.setMainSize(8);
            Check.due("in place of nothing", empty.restore(), 1);
            Check.due("the item", empty.property(0, Make.BASIS), 5);
            Check.due("the size", empty.setMainSize(9), 7);
            empty.removeItem(0);
            empty.save();
            empty.addItem(1, 1);
            Check.due("nothing in place of an item", empty.restore(), 0);
        });
        Sentence.test("Returns the number of items.", () -> {
            FlexLayout layout = new FlexLayout();
            for (int count = 0; count <= 20; count++) {
                Check.due("count", layout.save(), count);
                if (count < 20) {
                    layout.addItem(1, 1);
                }
            }
        });
    }

    private static void setContainer(FlexLayout layout, int main, int cross, int gap, int value) {
        layout.setMainSize(main);
        layout.setCrossSize(cross);
        layout.setGaps(gap, gap + 1);
        for (int setting = 0; setting < 5; setting++) {
            layout.setSetting(setting, value);
        }
    }

    private static void restore() {
        Sentence.section(29);
        Sentence.test("Restores the saved container and items, which stay saved.", () -> {
            FlexLayout changed = new FlexLayout();
            Make.read(changed, "b1 g2 s3 m4 x5 c6 a7 l4 o9 t0");
            setContainer(changed, 21, 22, 23, 2);
            changed.save();
            for (int property = 0; property < 10; property++) {
                changed.setProperty(0, property, 1);
            }
            setContainer(changed, 31, 32, 33, 1);
            changed.restore();
            properties("every property", changed, 0, 1, 2, 3, 4, 5, 6, 7, 4, 9, 0);
            Check.due("main size", changed.setMainSize(0), 21);
            Check.due("cross size", changed.setCrossSize(0), 22);
            Check.due("gaps", changed.setGaps(0, 0), 2324);
            for (int setting = 0; setting < 5; setting++) {
                Check.due("setting " + setting, changed.setSetting(setting, 0), 2);
            }
        });
        Sentence.test("which stay saved.", () -> {
            FlexLayout layout = fullOf(3, 4);
            layout.setCrossSize(30);
            layout.save();
            for (int time = 0; time < 3; time++) {
                layout.setCrossSize(FlexLayout.AUTO);
                layout.setProperty(19, Make.ALIGN, time);
                layout.setProperty(0, Make.BASIS, 100 + time);
                layout.removeItem(7);
                Check.due("restored", layout.restore(), 20);
                Check.due("first item", layout.property(0, Make.BASIS), 3);
                Check.due("last item", layout.property(19, Make.ALIGN), -1);
                Check.due("cross size", layout.crossExtent(), 30);
            }
            Check.thrown("full again", Look.STATE, () -> layout.addItem(1, 1));
            layout.restore();
            Check.due("restored without a change", layout.restore(), 20);
            FlexLayout fed = new FlexLayout();
            fed.save();
            fed.feed('b');
            fed.restore();
            Check.due("the buffer is neither container nor item", fed.feed('1'), 2);
        });
        Sentence.test("Returns the number of items.", () -> {
            FlexLayout layout = new FlexLayout();
            layout.save();
            layout.addItem(1, 1);
            Check.due("none", layout.restore(), 0);
            Check.due("items", layout.items(), 0);
            FlexLayout full = fullOf(1, 1);
            full.save();
            full.removeItem(0);
            Check.due("all", full.restore(), 20);
        });
        Sentence.test("Throws IllegalStateException if nothing was saved", () -> {
            Look.refused("a new object", FlexLayout::new, Look.STATE, FlexLayout::restore);
            Look.refused("items alone", () -> Make.row(50, 1, 2), Look.STATE, FlexLayout::restore);
            FlexLayout layout = new FlexLayout();
            Check.thrown("not yet", Look.STATE, layout::restore);
            layout.save();
            Check.due("now", layout.restore(), 0);
        });
    }
}
