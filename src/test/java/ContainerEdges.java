/** Edges of the description: its first words, the container, and the properties of items. */
final class ContainerEdges {
    private ContainerEdges() {
    }

    static void run() {
        Sentence.section(Sentence.USE);
        use();
        Sentence.section(Sentence.DESCRIPTION);
        exactSums();
        exceptions();
        severalExceptions();
        sizes();
        gaps();
        directionAndWrap();
        justifyItemsAndContent();
        axes();
        numbersOfItems();
        mainProperties();
        limits();
        crossProperties();
        otherProperties();
        constants();
    }

    private static void use() {
        Sentence.untested("A flexible box layout engine in whole pixels: items with flexible sizes are placed in the "
                + "lines of a container, as in the flexbox layout of style sheets, with growing, shrinking, wrapping, "
                + "reversed directions, alignment, and baselines.");
        Sentence.test("An object is used for at most 512 calls after it has been made; what later calls answer is "
                + "free.", () -> {
            FlexLayout layout = new FlexLayout();
            layout.setMainSize(9999);
            layout.addItem(2, 10);
            for (int call = 3; call <= 511; call++) {
                Check.due("call " + call, layout.setProperty(0, Make.BASIS, call), call - 1);
            }
            Check.due("call 512", layout.box(0, Make.WIDTH), 511);
            FlexLayout reader = new FlexLayout();
            for (int time = 0; time < 6; time++) {
                Make.feedAll(reader, "b0001 ".repeat(13) + "g" + time);
                Check.due("80 characters again", reader.readItem(), time);
            }
            Check.due("call 487", reader.property(5, Make.GROW), 5);
        });
    }

    private static int sumOf(FlexLayout layout, int what) {
        int sum = 0;
        for (int item = 0; item < layout.items(); item++) {
            sum += layout.box(item, what);
        }
        return sum;
    }

    private static void exactSums() {
        Sentence.test("All sizes and positions are integers. Where a space is divided among items, lines or gaps, the "
                + "results are integers whose sum is exact.", () -> {
            FlexLayout items = Make.row(0, 5, 5, 5, 5, 5);
            Make.setAll(items, Make.GROW, 1, 2, 3, 4, 5);
            for (int size = 0; size <= 60; size++) {
                items.setMainSize(size);
                Check.due("items in " + size, sumOf(items, Make.WIDTH), size);
            }
            FlexLayout lines = Make.linesOf(1, 2, 3);
            for (int size = 6; size <= 60; size++) {
                lines.setCrossSize(size);
                Check.due("lines in " + size, sumOf(lines, Make.HEIGHT), size);
            }
            FlexLayout gaps = Make.row(0, 5, 5, 5, 5);
            gaps.setSetting(Make.JUSTIFY, 3);
            for (int size = 20; size <= 60; size++) {
                gaps.setMainSize(size);
                Check.due("the last one ends at " + size, gaps.box(3, Make.X), size - 5);
            }
        });
        Sentence.untested("The class is not thread-safe.");
    }

    private static void exceptions() {
        Sentence.test("A method that throws an exception leaves the state unchanged.", () -> {
            Look.refused("setMainSize", Look::rich, Look.ARGUMENT, x -> x.setMainSize(10000));
            Look.refused("setCrossSize", Look::rich, Look.ARGUMENT, x -> x.setCrossSize(-2));
            Look.refused("setGaps, cross", Look::rich, Look.ARGUMENT, x -> x.setGaps(1, 100));
            Look.refused("setGaps, main", Look::rich, Look.ARGUMENT, x -> x.setGaps(-1, 1));
            Look.refused("setSetting, setting", Look::rich, Look.INDEX, x -> x.setSetting(5, 0));
            Look.refused("setSetting, value", Look::rich, Look.ARGUMENT, x -> x.setSetting(4, 7));
            Look.refused("addItem, basis", Look::rich, Look.ARGUMENT, x -> x.addItem(10000, 1));
            Look.refused("addItem, cross", Look::rich, Look.ARGUMENT, x -> x.addItem(1, 10000));
            Look.refused("addItem, full", Look::richWith20Items, Look.STATE, x -> x.addItem(1, 1));
            Look.refused("removeItem", Look::rich, Look.INDEX, x -> x.removeItem(4));
            Look.refused("setProperty, item", Look::rich, Look.INDEX, x -> x.setProperty(4, 0, 1));
            Look.refused("setProperty, property", Look::rich, Look.INDEX, x -> x.setProperty(0, 10, 1));
            Look.refused("setProperty, value", Look::rich, Look.ARGUMENT, x -> x.setProperty(0, 9, 2));
            Look.refused("property", Look::rich, Look.INDEX, x -> x.property(4, 0));
            Look.refused("feed", Look::richWithFullBuffer, Look.STATE, x -> x.feed('1'));
            Look.refused("readItem", Look::richWith20Items, Look.STATE, FlexLayout::readItem);
            Look.refused("restore", FlexLayout::new, Look.STATE, FlexLayout::restore);
        });
        Sentence.test("A method that throws an exception leaves the state unchanged.", () -> {
            Look.refused("lineOf", Look::rich, Look.INDEX, x -> x.lineOf(4));
            Look.refused("itemAt", Look::rich, Look.INDEX, x -> x.itemAt(4));
            Look.refused("hypotheticalSize", Look::rich, Look.INDEX, x -> x.hypotheticalSize(4));
            Look.refused("box", Look::rich, Look.INDEX, x -> x.box(0, 4));
            Look.refused("rounds", Look::rich, Look.INDEX, x -> x.rounds(4));
            Look.refused("freeSpace", Look::rich, Look.INDEX, x -> x.freeSpace(4));
            Look.refused("lineCross", Look::rich, Look.INDEX, x -> x.lineCross(4));
            Look.refused("lineAscent", Look::rich, Look.INDEX, x -> x.lineAscent(4));
            Look.refused("overflows", Look::rich, Look.INDEX, x -> x.overflows(4) ? 1 : 0);
            Look.refused("itemUnder", Look::rich, Look.ELEMENT, x -> x.itemUnder(-1, -1));
            Look.refused("narrowest", Look::rich, Look.ARGUMENT, x -> x.narrowest(21));
            Look.refused("share, pixels", Look::rich, Look.ARGUMENT, x -> x.share(100000, 0, 0));
            Look.refused("share, item", Look::rich, Look.INDEX, x -> x.share(1, 0, 4));
            Look.refused("share, weights", Look::rich, Look.ARITHMETIC, x -> x.share(1, 3, 0));
        });
    }

    private static void severalExceptions() {
        Sentence.test("If several exceptions apply, the one named first is thrown.", () -> {
            Look.refused("setSetting", Look::rich, Look.INDEX, x -> x.setSetting(5, 99));
            Look.refused("setSetting", Look::rich, Look.INDEX, x -> x.setSetting(-1, -1));
            Look.refused("addItem", Look::richWith20Items, Look.ARGUMENT, x -> x.addItem(-1, 0));
            Look.refused("addItem", Look::richWith20Items, Look.ARGUMENT, x -> x.addItem(0, 10000));
            Look.refused("setProperty, item", Look::rich, Look.INDEX, x -> x.setProperty(4, 0, -1));
            Look.refused("setProperty, property", Look::rich, Look.INDEX, x -> x.setProperty(0, 10, -10));
            Look.refused("setProperty, all", Look::rich, Look.INDEX, x -> x.setProperty(-1, -1, -10));
            Look.refused("narrowest", () -> Make.row(0, 9999, 9999), Look.ARGUMENT, x -> x.narrowest(0));
            Look.refused("share, all", Look::rich, Look.ARGUMENT, x -> x.share(-1, 4, 4));
            Look.refused("share, property and item", Look::rich, Look.ARGUMENT, x -> x.share(1, 4, 4));
            Look.refused("share, pixels and weights", Look::rich, Look.ARGUMENT, x -> x.share(-1, 3, 0));
            Look.refused("share, item and weights", Look::rich, Look.INDEX, x -> x.share(1, 3, 4));
        });
    }

    private static void sizes() {
        Sentence.test("Container. The container has a main size W from 0 to 9999, at first 100,", () -> {
            FlexLayout layout = new FlexLayout();
            layout.addItem(0, 10);
            layout.setProperty(0, Make.GROW, 1);
            Check.due("at first", layout.box(0, Make.WIDTH), 100);
            Check.thrown("-1", Look.ARGUMENT, () -> layout.setMainSize(-1));
            Check.thrown("10000", Look.ARGUMENT, () -> layout.setMainSize(10000));
            Check.due("refused", layout.box(0, Make.WIDTH), 100);
            layout.setMainSize(0);
            Check.due("lowest", layout.box(0, Make.WIDTH), 0);
            layout.setMainSize(9999);
            Check.due("highest", layout.box(0, Make.WIDTH), 9999);
        });
        Sentence.test("and a cross size H, which is from 0 to 9999 or automatic, at first automatic.", () -> {
            FlexLayout layout = Make.row(100, 10);
            Check.due("at first automatic", layout.crossExtent(), 10);
            Check.thrown("-2", Look.ARGUMENT, () -> layout.setCrossSize(-2));
            Check.thrown("10000", Look.ARGUMENT, () -> layout.setCrossSize(10000));
            Check.due("refused", layout.crossExtent(), 10);
            layout.setCrossSize(0);
            Check.due("lowest", layout.crossExtent(), 0);
            layout.setCrossSize(9999);
            Check.due("highest", layout.crossExtent(), 9999);
            layout.setCrossSize(FlexLayout.AUTO);
            Check.due("automatic", layout.crossExtent(), 10);
        });
    }

    private static void gaps() {
        Sentence.test("It has a main gap and a cross gap, each from 0 to 99, at first 0.", () -> {
            FlexLayout layout = Make.row(119, 10, 10, 100);
            layout.setSetting(Make.WRAP, 1);
            Make.boxes("at first", layout, Make.X, 0, 10, 0);
            Make.boxes("at first", layout, Make.Y, 0, 0, 10);
            layout.setGaps(99, 99);
            Make.boxes("highest", layout, Make.X, 0, 109, 0);
            Make.boxes("highest", layout, Make.Y, 0, 0, 109);
            layout.setGaps(0, 99);
            Make.boxes("cross alone", layout, Make.X, 0, 10, 0);
            Make.boxes("cross alone", layout, Make.Y, 0, 0, 109);
            layout.setGaps(99, 0);
            Make.boxes("main alone", layout, Make.X, 0, 109, 0);
            Make.boxes("main alone", layout, Make.Y, 0, 0, 10);
            int[][] wrongs = {{-1, 0}, {0, -1}, {100, 0}, {0, 100}};
            for (int[] gap : wrongs) {
                Check.thrown("gaps " + gap[0] + " " + gap[1], Look.ARGUMENT, () -> layout.setGaps(gap[0], gap[1]));
            }
            Make.boxes("refused", layout, Make.X, 0, 109, 0);
        });
    }

    /** The setting has the values from 0 to the highest, and no other. */
    private static void values(FlexLayout layout, int setting, int highest) {
        for (int value : new int[] {-1, highest + 1, Integer.MIN_VALUE, Integer.MAX_VALUE}) {
            Check.thrown("value " + value, Look.ARGUMENT, () -> layout.setSetting(setting, value));
        }
        Check.due("the highest stays", layout.setSetting(setting, 0), highest);
    }

    private static void directionAndWrap() {
        Sentence.untested("The settings of the container are numbers:");
        Sentence.test("direction: 0 row, 1 row reversed, 2 column, 3 column reversed; at first 0;", () -> {
            FlexLayout layout = Make.row(100, 30, 20);
            Make.boxes("at first", layout, Make.X, 0, 30);
            int[][] x = {{0, 30}, {70, 50}, {0, 0}, {0, 0}};
            int[][] y = {{0, 0}, {0, 0}, {0, 30}, {70, 50}};
            for (int value = 0; value <= 3; value++) {
                layout.setSetting(Make.DIRECTION, value);
                Make.boxes("direction " + value, layout, Make.X, x[value]);
                Make.boxes("direction " + value, layout, Make.Y, y[value]);
            }
            values(layout, Make.DIRECTION, 3);
        });
        Sentence.test("wrap: 0 no wrapping, 1 wrapping, 2 wrapping reversed; at first 0;", () -> {
            FlexLayout layout = Make.row(20, 20, 20);
            Check.due("at first", layout.lines(), 1);
            int[] lines = {1, 2, 2};
            int[][] y = {{0, 0}, {0, 10}, {10, 0}};
            for (int value = 0; value <= 2; value++) {
                layout.setSetting(Make.WRAP, value);
                Check.due("wrap " + value, layout.lines(), lines[value]);
                Make.boxes("wrap " + value, layout, Make.Y, y[value]);
            }
            values(layout, Make.WRAP, 2);
        });
    }

    private static void justifyItemsAndContent() {
        Sentence.test("justify: 0 start, 1 end, 2 center, 3 space between, 4 space around, 5 space evenly; at first "
                + "0;", () -> {
            FlexLayout layout = Make.row(100, 20, 20);
            int[][] x = {{0, 20}, {60, 80}, {30, 50}, {0, 80}, {15, 65}, {20, 60}};
            Make.boxes("at first", layout, Make.X, x[0]);
            for (int value = 0; value <= 5; value++) {
                layout.setSetting(Make.JUSTIFY, value);
                Make.boxes("justify " + value, layout, Make.X, x[value]);
            }
            values(layout, Make.JUSTIFY, 5);
        });
        Sentence.test("items: how items are aligned in their line, 0 stretch, 1 start, 2 end, 3 center, 4 baseline; "
                + "at first 0;", () -> {
            FlexLayout layout = Make.row(100, 20, 20);
            Make.setAll(layout, Make.CROSS, 10, 30);
            Make.setAll(layout, Make.ASCENT, 6, 4);
            int[][] y = {{0, 0}, {0, 0}, {20, 0}, {10, 0}, {0, 2}};
            Make.boxes("at first", layout, Make.HEIGHT, 30, 30);
            for (int value = 0; value <= 4; value++) {
                layout.setSetting(Make.ITEMS, value);
                Make.boxes("items " + value, layout, Make.Y, y[value]);
                Make.boxes("items " + value, layout, Make.HEIGHT, value == 0 ? 30 : 10, 30);
            }
            values(layout, Make.ITEMS, 4);
        });
        Sentence.test("content: how lines are aligned, 0 stretch, 1 start, 2 end, 3 center, 4 space between, 5 space "
                + "around, 6 space evenly; at first 0.", () -> {
            FlexLayout layout = Make.linesOf(10, 10);
            layout.setCrossSize(80);
            int[][] y = {{0, 40}, {0, 10}, {60, 70}, {30, 40}, {0, 70}, {15, 55}, {20, 50}};
            Make.boxes("at first", layout, Make.Y, y[0]);
            for (int value = 0; value <= 6; value++) {
                layout.setSetting(Make.CONTENT, value);
                Make.boxes("content " + value, layout, Make.Y, y[value]);
                Make.boxes("content " + value, layout, Make.HEIGHT, value == 0 ? 40 : 10, value == 0 ? 40 : 10);
            }
            values(layout, Make.CONTENT, 6);
        });
    }

    private static void axis(int direction, int place, int size, int otherPlace, int otherSize) {
        FlexLayout layout = Make.row(100, 30);
        layout.setCrossSize(50);
        layout.setSetting(Make.ITEMS, 2);
        layout.setSetting(Make.JUSTIFY, direction % 2 == 0 ? 1 : 0);
        layout.setSetting(Make.DIRECTION, direction);
        Make.boxes("main size, direction " + direction, layout, size, 30);
        Make.boxes("main position, direction " + direction, layout, place, 70);
        Make.boxes("cross size, direction " + direction, layout, otherSize, 10);
        Make.boxes("cross position, direction " + direction, layout, otherPlace, 40);
    }

    private static void axes() {
        Sentence.test("With the directions 0 and 1, the main axis is horizontal: main sizes are widths, and main "
                + "positions are x coordinates from the left.", () -> {
            axis(0, Make.X, Make.WIDTH, Make.Y, Make.HEIGHT);
            axis(1, Make.X, Make.WIDTH, Make.Y, Make.HEIGHT);
        });
        Sentence.test("With the directions 2 and 3, main sizes are heights, and main positions are y coordinates from "
                + "the top.", () -> {
            axis(2, Make.Y, Make.HEIGHT, Make.X, Make.WIDTH);
            axis(3, Make.Y, Make.HEIGHT, Make.X, Make.WIDTH);
        });
    }

    private static void numbersOfItems() {
        Sentence.test("Items. There are at most 20 items, numbered from 0 in the order in which they were added.",
                () -> {
            FlexLayout layout = new FlexLayout();
            for (int item = 0; item < 20; item++) {
                int number = item % 2 == 0 ? layout.addItem(item, 1) : Make.read(layout, "b" + item);
                Check.due("number", number, item);
            }
            Check.thrown("a 21st by addItem", Look.STATE, () -> layout.addItem(20, 1));
            Check.thrown("a 21st by readItem", Look.STATE, layout::readItem);
            for (int item = 0; item < 20; item++) {
                Check.due("basis of " + item, layout.property(item, Make.BASIS), item);
            }
        });
        Sentence.untested("An item has these properties:");
    }

    /** An item whose property has its first value, then the lowest, then the highest one, and keeps that one. */
    private static void range(int property, int low, int high, int first) {
        FlexLayout layout = new FlexLayout();
        Make.read(layout, property == Make.SHRINK ? "g0" : "s1");
        Check.due("at first", layout.property(0, property), first);
        Check.due("set to the lowest", layout.setProperty(0, property, low), first);
        Check.due("lowest", layout.property(0, property), low);
        Check.due("set to the highest", layout.setProperty(0, property, high), low);
        for (int value : new int[] {low - 1, high + 1, Integer.MIN_VALUE, Integer.MAX_VALUE}) {
            Check.thrown("value " + value, Look.ARGUMENT, () -> layout.setProperty(0, property, value));
        }
        Check.due("highest", layout.property(0, property), high);
    }

    private static FlexLayout with(int mainSize, int basis, int property, int value) {
        FlexLayout layout = Make.row(mainSize, basis, basis);
        layout.setProperty(0, property, value);
        return layout;
    }

    private static void mainProperties() {
        Sentence.test("property 0, basis: its preferred main size, 0 to 9999, at first 0;", () -> {
            range(Make.BASIS, 0, 9999, 0);
            Make.boxes("lowest", with(100, 7, Make.BASIS, 0), Make.WIDTH, 0, 7);
            Make.boxes("highest", with(9999, 0, Make.BASIS, 9999), Make.WIDTH, 9999, 0);
        });
        Sentence.test("property 1, grow: its grow factor, 0 to 99, at first 0;", () -> {
            range(Make.GROW, 0, 99, 0);
            FlexLayout layout = Make.row(100, 0, 0);
            Make.boxes("at first", layout, Make.WIDTH, 0, 0);
            Make.setAll(layout, Make.GROW, 99, 1);
            Make.boxes("highest", layout, Make.WIDTH, 99, 1);
            Make.setAll(layout, Make.GROW, 0, 1);
            Make.boxes("lowest", layout, Make.WIDTH, 0, 100);
        });
        Sentence.test("property 2, shrink: its shrink factor, 0 to 99, at first 1;", () -> {
            range(Make.SHRINK, 0, 99, 1);
            FlexLayout layout = Make.row(100, 100, 100);
            Make.boxes("at first", layout, Make.WIDTH, 50, 50);
            layout.setProperty(0, Make.SHRINK, 99);
            Make.boxes("highest", layout, Make.WIDTH, 1, 99);
            layout.setProperty(0, Make.SHRINK, 0);
            Make.boxes("lowest", layout, Make.WIDTH, 100, 0);
        });
    }

    private static void limits() {
        Sentence.test("property 3, minimum: its minimum main size, 0 to 9999, at first 0;", () -> {
            range(Make.MINIMUM, 0, 9999, 0);
            Make.boxes("at first", Make.row(0, 50, 50), Make.WIDTH, 0, 0);
            Make.boxes("lowest above 0", with(0, 50, Make.MINIMUM, 1), Make.WIDTH, 1, 0);
            Make.boxes("highest", with(0, 50, Make.MINIMUM, 9999), Make.WIDTH, 9999, 0);
        });
        Sentence.test("property 4, maximum: its maximum main size, 0 to 9999, or -1 for none, at first -1;", () -> {
            range(Make.MAXIMUM, -1, 9999, -1);
            Make.boxes("at first", Make.row(100, 50, 50), Make.WIDTH, 50, 50);
            Make.boxes("0 is a maximum", with(100, 50, Make.MAXIMUM, 0), Make.WIDTH, 0, 50);
            Make.boxes("-1 is none", with(100, 50, Make.MAXIMUM, -1), Make.WIDTH, 50, 50);
            Make.boxes("highest", with(9999, 0, Make.MAXIMUM, 9999), Make.WIDTH, 0, 0);
            FlexLayout wide = Make.row(9999, 9999);
            wide.setProperty(0, Make.MAXIMUM, 9998);
            Make.boxes("one below the highest", wide, Make.WIDTH, 9998);
        });
    }

    private static void crossProperties() {
        Sentence.test("property 5, cross: its cross size, 0 to 9999, at first 0;", () -> {
            range(Make.CROSS, 0, 9999, 0);
            FlexLayout layout = new FlexLayout();
            Make.read(layout, "b1");
            Check.due("at first", layout.crossExtent(), 0);
            layout.setProperty(0, Make.CROSS, 9999);
            Check.due("highest", layout.crossExtent(), 9999);
        });
        Sentence.test("property 6, ascent: the distance from its cross start to its baseline, 0 to 9999, at first 0;",
                () -> {
            range(Make.ASCENT, 0, 9999, 0);
            FlexLayout layout = Make.row(100, 10, 10);
            layout.setSetting(Make.ITEMS, 4);
            Make.boxes("at first", layout, Make.Y, 0, 0);
            layout.setProperty(0, Make.ASCENT, 9999);
            Make.boxes("highest", layout, Make.Y, 0, 9999);
        });
        Sentence.test("property 7, align: its own alignment, 0 to 4 as for items of the container, or -1 to use that "
                + "of the container, at first -1;", () -> {
            range(Make.ALIGN, -1, 4, -1);
            FlexLayout layout = Make.row(100, 20, 20);
            layout.setSetting(Make.ITEMS, 2);
            Make.setAll(layout, Make.CROSS, 10, 30);
            Make.setAll(layout, Make.ASCENT, 0, 4);
            Make.boxes("at first", layout, Make.Y, 20, 0);
            int[] places = {20, 0, 0, 20, 10, 4};
            for (int value = -1; value <= 4; value++) {
                layout.setProperty(0, Make.ALIGN, value);
                layout.setProperty(1, Make.ALIGN, value == 4 ? 4 : 1);
                Make.boxes("align " + value, layout, Make.Y, places[value + 1]);
                Make.boxes("align " + value, layout, Make.HEIGHT, value == 0 ? 30 : 10);
            }
        });
    }

    private static void otherProperties() {
        Sentence.test("property 8, order: its order, -9 to 9, at first 0;", () -> {
            range(Make.ORDER, -9, 9, 0);
            FlexLayout layout = Make.row(100, 10, 10, 10);
            Make.boxes("at first", layout, Make.X, 0, 10, 20);
            Make.setAll(layout, Make.ORDER, 9, 8, 9);
            Make.boxes("highest", layout, Make.X, 10, 0, 20);
            Make.setAll(layout, Make.ORDER, 0, -8, -9);
            Make.boxes("lowest", layout, Make.X, 20, 10, 0);
        });
        Sentence.test("property 9, stretchable: 1 if it may be stretched, 0 if not, at first 1.", () -> {
            range(Make.STRETCHABLE, 0, 1, 1);
            FlexLayout layout = Make.row(100, 10, 10);
            layout.setCrossSize(50);
            Make.boxes("at first", layout, Make.HEIGHT, 50, 50);
            layout.setProperty(0, Make.STRETCHABLE, 0);
            Make.boxes("not stretchable", layout, Make.HEIGHT, 10, 50);
        });
    }

    private static void constants() {
        Sentence.untested("The constants:");
        Sentence.test("AUTO = -1: The value of H if it is automatic, of a maximum if there is none, and of an own "
                + "alignment if there is none.", () -> {
            FlexLayout layout = Make.row(100, 10);
            Check.due("AUTO", FlexLayout.AUTO, -1);
            Check.due("H at first", layout.setCrossSize(5), FlexLayout.AUTO);
            layout.setCrossSize(FlexLayout.AUTO);
            Check.due("H", layout.setCrossSize(5), FlexLayout.AUTO);
            Check.due("maximum at first", layout.setProperty(0, Make.MAXIMUM, 5), FlexLayout.AUTO);
            layout.setProperty(0, Make.MAXIMUM, FlexLayout.AUTO);
            Check.due("maximum", layout.property(0, Make.MAXIMUM), FlexLayout.AUTO);
            Check.due("alignment at first", layout.setProperty(0, Make.ALIGN, 2), FlexLayout.AUTO);
            layout.setProperty(0, Make.ALIGN, FlexLayout.AUTO);
            Check.due("alignment", layout.property(0, Make.ALIGN), FlexLayout.AUTO);
            for (int property : new int[] {0, 1, 2, 3, 5, 6, 9}) {
                Check.thrown("no other property", Look.ARGUMENT,
                        () -> layout.setProperty(0, property, FlexLayout.AUTO));
            }
        });
        Sentence.untested("The constructor and the methods follow, a promise each: the signature, then what it does.");
    }
}
