/** Edges of the description: clamping, the layout sequence, lines, and dividing. */
final class LineEdges {
    private LineEdges() {
    }

    static void run() {
        Sentence.section(Sentence.DESCRIPTION);
        clamping();
        sequence();
        singleLine();
        presentLine();
        newLine();
        noLines();
        roundedDown();
        pixelsLeft();
        equalRemainders();
    }

    private static void clamped(int basis, int minimum, int maximum, int want) {
        FlexLayout layout = Make.row(100, basis);
        layout.setProperty(0, Make.MINIMUM, minimum);
        layout.setProperty(0, Make.MAXIMUM, maximum);
        Check.due(basis + " between " + minimum + " and " + maximum, layout.hypotheticalSize(0), want);
    }

    private static void clamping() {
        Sentence.test("To clamp a size means to replace it by the maximum if it is greater than the maximum, and then "
                + "by the minimum if it is less than the minimum.", () -> {
            clamped(49, 0, 50, 49);
            clamped(50, 0, 50, 50);
            clamped(51, 0, 50, 50);
            clamped(49, 50, -1, 50);
            clamped(50, 50, -1, 50);
            clamped(51, 50, -1, 51);
            clamped(9999, 0, -1, 9999);
            clamped(1, 0, 0, 0);
            clamped(0, 0, 0, 0);
            clamped(70, 60, 40, 60);
            clamped(50, 60, 40, 60);
            clamped(30, 60, 40, 60);
            clamped(0, 9999, 0, 9999);
            clamped(50, 30, 30, 30);
            clamped(10, 30, 30, 30);
        });
        Sentence.test("Lines. The hypothetical size of an item is its clamped basis.", () -> {
            FlexLayout layout = Make.row(10, 50, 50);
            Make.setAll(layout, Make.GROW, 1, 1);
            layout.setProperty(1, Make.MAXIMUM, 49);
            Check.due("not the size after shrinking", layout.hypotheticalSize(0), 50);
            Check.due("the clamped one", layout.hypotheticalSize(1), 49);
            layout.setMainSize(9999);
            Check.due("not the size after growing", layout.hypotheticalSize(0), 50);
        });
    }

    private static void inSequence(String name, FlexLayout layout, int... wants) {
        for (int place = 0; place < wants.length; place++) {
            Check.due(name + ": item at " + place, layout.itemAt(place), wants[place]);
        }
    }

    private static void sequence() {
        Sentence.test("The layout sequence consists of all items in ascending order of their orders,", () -> {
            FlexLayout layout = Make.row(100, 1, 1, 1, 1, 1);
            Make.setAll(layout, Make.ORDER, 9, -1, 0, 1, -9);
            inSequence("ascending", layout, 4, 1, 2, 3, 0);
            layout.setProperty(0, Make.ORDER, -2);
            inSequence("changed", layout, 4, 0, 1, 2, 3);
        });
        Sentence.test("and of their numbers for equal orders.", () -> {
            FlexLayout layout = new FlexLayout();
            for (int item = 0; item < 20; item++) {
                layout.addItem(1, 1);
                layout.setProperty(item, Make.ORDER, item < 10 ? 9 : -9);
            }
            for (int place = 0; place < 20; place++) {
                Check.due("item at " + place, layout.itemAt(place), place < 10 ? place + 10 : place - 10);
            }
            layout.removeItem(10);
            inSequence("numbers are lower by 1", layout, 10, 11, 12, 13, 14, 15, 16, 17, 18, 0, 1);
        });
    }

    private static void singleLine() {
        Sentence.test("Without wrapping, there is one line with all items.", () -> {
            FlexLayout layout = new FlexLayout();
            layout.setMainSize(0);
            layout.setGaps(99, 99);
            for (int item = 0; item < 20; item++) {
                layout.addItem(9999, 1);
                layout.setProperty(item, Make.ORDER, item % 3);
            }
            Check.due("lines", layout.lines(), 1);
            for (int item = 0; item < 20; item++) {
                Check.due("line of " + item, layout.lineOf(item), 0);
            }
        });
    }

    private static FlexLayout wrapping(int mainSize, int... bases) {
        FlexLayout layout = Make.row(mainSize, bases);
        layout.setSetting(Make.WRAP, 1);
        return layout;
    }

    private static void inLines(String name, FlexLayout layout, int... wants) {
        for (int item = 0; item < wants.length; item++) {
            Check.due(name + ": line of " + item, layout.lineOf(item), wants[item]);
        }
        int last = 0;
        for (int want : wants) {
            last = Math.max(last, want);
        }
        Check.due(name + ": lines", layout.lines(), last + 1);
    }

    private static void presentLine() {
        Sentence.test("Otherwise, the items are put into lines in the layout sequence:", () -> {
            FlexLayout layout = wrapping(100, 60, 50, 40);
            inLines("by numbers", layout, 0, 1, 1);
            Make.setAll(layout, Make.ORDER, 0, 1, 0);
            inLines("by orders", layout, 0, 1, 0);
            layout.setSetting(Make.WRAP, 2);
            inLines("reversed wrapping", layout, 0, 1, 0);
        });
        Sentence.test("an item is put into the present line if this line is empty,", () -> {
            inLines("too wide, alone", wrapping(100, 101), 0);
            inLines("too wide, first and last", wrapping(100, 101, 100, 101), 0, 1, 2);
            inLines("nothing is narrow enough", wrapping(0, 1, 1, 1), 0, 1, 2);
            inLines("9999 in 0", wrapping(0, 9999), 0);
        });
        Sentence.test("or if the hypothetical sizes of its items and of the new one, together with the main gaps "
                + "between them, are at most W;", () -> {
            inLines("exact", wrapping(100, 60, 40), 0, 0);
            inLines("one too many", wrapping(100, 60, 41), 0, 1);
            inLines("nothing in nothing", wrapping(0, 0, 0, 0), 0, 0, 0);
            inLines("a size of 0 behind a full line", wrapping(100, 100, 0), 0, 0);
            inLines("a size of 0 behind too wide a one", wrapping(100, 101, 0), 0, 1);
            FlexLayout gaps = wrapping(100, 30, 30, 30);
            gaps.setGaps(5, 99);
            inLines("exact with gaps", gaps, 0, 0, 0);
            gaps.setMainSize(99);
            inLines("one too many with gaps", gaps, 0, 0, 1);
            FlexLayout clamped = wrapping(100, 10, 90);
            Make.setAll(clamped, Make.MINIMUM, 60, 0);
            Make.setAll(clamped, Make.MAXIMUM, -1, 40);
            inLines("hypothetical sizes, exact", clamped, 0, 0);
            clamped.setProperty(0, Make.MINIMUM, 61);
            inLines("hypothetical sizes, one too many", clamped, 0, 1);
        });
    }

    private static void newLine() {
        Sentence.test("else it starts a new line.", () -> {
            inLines("no way back to an earlier line", wrapping(100, 60, 50, 40, 10), 0, 1, 1, 1);
            FlexLayout layout = new FlexLayout();
            layout.setMainSize(1);
            layout.setSetting(Make.WRAP, 1);
            for (int item = 0; item < 20; item++) {
                layout.addItem(1, 1);
            }
            for (int item = 0; item < 20; item++) {
                Check.due("line of " + item, layout.lineOf(item), item);
            }
            FlexLayout gaps = wrapping(10, 10, 10);
            gaps.setGaps(99, 0);
            Check.due("no gap ahead of the first of a line", gaps.box(1, Make.X), 0);
            Check.due("nor in its available size", gaps.freeSpace(1), 0);
        });
    }

    private static void noLines() {
        Sentence.test("Without items there are no lines.", () -> {
            FlexLayout layout = new FlexLayout();
            for (int wrap = 0; wrap <= 2; wrap++) {
                layout.setSetting(Make.WRAP, wrap);
                Check.due("lines, wrap " + wrap, layout.lines(), 0);
                Check.thrown("line 0, wrap " + wrap, Look.INDEX, () -> layout.lineCross(0));
            }
            layout.addItem(0, 0);
            Check.due("an item of size 0", layout.lines(), 1);
            layout.removeItem(0);
            Check.due("removed", layout.lines(), 0);
            layout.setSetting(Make.WRAP, 0);
            Check.due("removed, without wrapping", layout.lines(), 0);
        });
    }

    /** The shares of pixels by the bases as weights. */
    private static void shares(int pixels, int[] weights, int... wants) {
        FlexLayout layout = Make.row(100, weights);
        for (int item = 0; item < wants.length; item++) {
            Check.due(pixels + " pixels: share of " + item, layout.share(pixels, Make.BASIS, item), wants[item]);
        }
    }

    private static void roundedDown() {
        Sentence.test("Dividing. To divide a number of pixels N among parties with weights, at least one of which is "
                + "greater than 0, means: each party first gets N * weight / sum of the weights, rounded down;",
                () -> {
            int[] weights = {5, 3, 2};
            shares(0, weights, 0, 0, 0);
            shares(10, weights, 5, 3, 2);
            shares(99990, weights, 49995, 29997, 19998);
            shares(7, new int[] {0, 0, 1}, 0, 0, 7);
            shares(99999, new int[] {9999}, 99999);
            shares(99999, new int[] {9999, 9998, 1}, 50000, 49994, 5);
            Check.thrown("no weight is greater than 0", Look.ARITHMETIC, () -> Make.row(1, 0, 0).share(1, 0, 0));
        });
    }

    private static void pixelsLeft() {
        Sentence.test("then the pixels that are left are given out, one to each party, in descending order of the "
                + "remainders of these divisions,", () -> {
            // 35, 21 and 14 by 10; 45, 27 and 18 by 10.
            shares(7, new int[] {5, 3, 2}, 4, 2, 1);
            shares(9, new int[] {5, 3, 2}, 4, 3, 2);
            shares(1, new int[] {1, 2, 3}, 0, 0, 1);
            shares(2, new int[] {1, 2, 3}, 0, 1, 1);
            // 11, 22 and 33 by 6: 1, 3 and 5, with the remainders 5, 4 and 3.
            shares(11, new int[] {1, 2, 3}, 2, 4, 5);
            shares(6, new int[] {1, 1, 1, 1, 1, 1, 1}, 1, 1, 1, 1, 1, 1, 0);
        });
    }

    private static void equalRemainders() {
        Sentence.test("and in the given order of the parties for equal remainders.", () -> {
            shares(1, new int[] {1, 1, 1}, 1, 0, 0);
            shares(2, new int[] {1, 1, 1}, 1, 1, 0);
            shares(3, new int[] {1, 1, 1}, 1, 1, 1);
            shares(4, new int[] {1, 1, 1}, 2, 1, 1);
            shares(2, new int[] {0, 1, 1, 1}, 0, 1, 1, 0);
            shares(1, new int[] {2, 3, 3, 2}, 0, 1, 0, 0);
            shares(19, new int[] {1, 1, 1, 1, 1, 1, 1, 1, 1, 1, 1, 1, 1, 1, 1, 1, 1, 1, 1, 1},
                    1, 1, 1, 1, 1, 1, 1, 1, 1, 1, 1, 1, 1, 1, 1, 1, 1, 1, 1, 0);
        });
    }
}
