/** Edges of the description: flexible sizes. */
final class FlexEdges {
    private FlexEdges() {
    }

    static void run() {
        Sentence.section(Sentence.DESCRIPTION);
        availableSize();
        growOrShrink();
        frozenAtOnce();
        rounds();
        freeSpaceOfRound();
        growing();
        shrinking();
        noProducts();
        otherwiseBasis();
        clamping();
        violations();
    }

    private static FlexLayout growers(int mainSize, int... bases) {
        FlexLayout layout = Make.row(mainSize, bases);
        for (int item = 0; item < bases.length; item++) {
            layout.setProperty(item, Make.GROW, 1);
        }
        return layout;
    }

    private static void line(String name, FlexLayout layout, int rounds, int free, int... widths) {
        Make.boxes(name, layout, Make.WIDTH, widths);
        Check.due(name + ": rounds", layout.rounds(0), rounds);
        Check.due(name + ": free space", layout.freeSpace(0), free);
    }

    private static void availableSize() {
        Sentence.test("Flexible sizes. The available size of a line is W minus the main gaps between its items.", () -> {
            FlexLayout layout = Make.row(100, 0);
            layout.setGaps(99, 50);
            Check.due("one item, no gap", layout.freeSpace(0), 100);
            layout.addItem(0, 1);
            Check.due("two items, one gap", layout.freeSpace(0), 1);
            layout.addItem(0, 1);
            Check.due("three items, two gaps", layout.freeSpace(0), -98);
            layout.setMainSize(0);
            Check.due("gaps alone", layout.freeSpace(0), -198);
            FlexLayout lines = Make.row(100, 30, 30, 30);
            lines.setSetting(Make.WRAP, 1);
            lines.setGaps(10, 0);
            Check.due("of the first line", lines.freeSpace(0), 30);
            Check.due("of the last line", lines.freeSpace(1), 70);
        });
    }

    private static void growOrShrink() {
        Sentence.test("If the sum of the hypothetical sizes is less than the available size, the line grows; otherwise "
                + "it shrinks.", () -> {
            FlexLayout grower = growers(101, 40, 60);
            Make.setAll(grower, Make.SHRINK, 0, 0);
            line("one less", grower, 1, 0, 41, 60);
            grower.setMainSize(100);
            line("equal: it does not grow", grower, 0, 0, 40, 60);
            grower.setMainSize(99);
            line("one more: it does not grow", grower, 0, -1, 40, 60);
            FlexLayout shrinker = Make.row(101, 40, 60);
            line("one less: it does not shrink", shrinker, 0, 1, 40, 60);
            shrinker.setMainSize(100);
            line("equal", shrinker, 1, 0, 40, 60);
            shrinker.setMainSize(99);
            line("one more", shrinker, 1, 0, 40, 59);
            shrinker.setMainSize(110);
            shrinker.setGaps(10, 0);
            line("equal with a gap", shrinker, 1, 0, 40, 60);
            shrinker.setGaps(9, 0);
            line("one less with a gap", shrinker, 0, 1, 40, 60);
            FlexLayout clamped = growers(100, 10);
            clamped.setProperty(0, Make.MINIMUM, 100);
            line("the hypothetical size, not the basis", clamped, 0, 0, 100);
            clamped.setProperty(0, Make.MINIMUM, 99);
            line("a hypothetical size of one less", clamped, 1, 0, 100);
        });
    }

    private static void frozenAtOnce() {
        Sentence.test("An item is frozen at its hypothetical size at once if its factor of this kind is 0,", () -> {
            FlexLayout grower = growers(100, 10, 10);
            Make.setAll(grower, Make.GROW, 0, 1);
            Make.setAll(grower, Make.SHRINK, 0, 0);
            grower.setProperty(0, Make.MINIMUM, 15);
            line("growing", grower, 1, 0, 15, 85);
            grower.setProperty(1, Make.GROW, 0);
            line("growing, all", grower, 0, 75, 15, 10);
            FlexLayout shrinker = Make.row(100, 80, 80);
            Make.setAll(shrinker, Make.SHRINK, 0, 1);
            shrinker.setProperty(0, Make.MAXIMUM, 70);
            line("shrinking", shrinker, 1, 0, 70, 30);
            Make.setAll(shrinker, Make.GROW, 1, 1);
            Make.setAll(shrinker, Make.SHRINK, 0, 0);
            line("shrinking, all", shrinker, 0, -50, 70, 80);
        });
        Sentence.test("if the line grows and its basis is greater than its hypothetical size,", () -> {
            FlexLayout layout = growers(100, 20);
            layout.setProperty(0, Make.MAXIMUM, 20);
            line("equal", layout, 1, 80, 20);
            layout.setProperty(0, Make.BASIS, 21);
            line("one greater", layout, 0, 80, 20);
            layout.setProperty(0, Make.BASIS, 19);
            line("one less", layout, 1, 80, 20);
            layout.setProperty(0, Make.MAXIMUM, -1);
            layout.setProperty(0, Make.MINIMUM, 20);
            line("less by a minimum", layout, 1, 0, 100);
        });
        Sentence.test("or if the line shrinks and its basis is less than its hypothetical size.", () -> {
            FlexLayout layout = Make.row(10, 20);
            layout.setProperty(0, Make.MINIMUM, 20);
            line("equal", layout, 1, -10, 20);
            layout.setProperty(0, Make.BASIS, 19);
            line("one less", layout, 0, -10, 20);
            layout.setProperty(0, Make.BASIS, 21);
            line("one greater", layout, 1, -10, 20);
            layout.setProperty(0, Make.MINIMUM, 0);
            layout.setProperty(0, Make.MAXIMUM, 20);
            line("greater by a maximum", layout, 1, 0, 10);
        });
    }

    private static void rounds() {
        Sentence.test("Then rounds are executed until all items are frozen.", () -> {
            FlexLayout layout = growers(9999, 0, 0, 0, 0, 0, 0, 0, 0);
            Make.setAll(layout, Make.GROW, 64, 32, 16, 8, 4, 2, 1, 1);
            Make.setAll(layout, Make.MAXIMUM, 0, 2528, 2512, 1880, 1244, 772, 460, 533);
            line("a round for each item", layout, 8, 70, 0, 2528, 2512, 1880, 1244, 772, 460, 533);
            layout.setProperty(7, Make.MAXIMUM, -1);
            line("the last one has the rest", layout, 8, 0, 0, 2528, 2512, 1880, 1244, 772, 460, 603);
            Make.setAll(layout, Make.GROW, 0, 0, 0, 0, 0, 0, 0, 0);
            line("no round", layout, 0, 9999, 0, 0, 0, 0, 0, 0, 0, 0);
            twentyRounds();
        });
    }

    /** As many rounds as there can be: each minimum is broken only when all those ahead of it are frozen. */
    private static void twentyRounds() {
        int[] minima = {793, 2493, 104, 1644, 187, 4, 70, 1405, 274, 138, 470, 86, 28, 246, 16, 192, 126, 4, 27, 0};
        FlexLayout layout = Make.row(8312,
                793, 6624, 290, 2673, 501, 6, 140, 2875, 970, 934, 1081, 392, 102, 287, 109, 313, 141, 20, 45, 10);
        Make.setAll(layout, Make.SHRINK,
                99, 78, 75, 43, 70, 44, 56, 57, 80, 95, 63, 87, 81, 16, 95, 43, 12, 90, 44, 43);
        Make.setAll(layout, Make.MINIMUM, minima);
        int[] widths = minima.clone();
        widths[19] = 5;
        line("a round for each of twenty items", layout, 20, 0, widths);
        layout.setProperty(19, Make.MINIMUM, 6);
        widths[19] = 6;
        line("the last one at its minimum too", layout, 20, -1, widths);
    }

    private static void freeSpaceOfRound() {
        Sentence.test("In a round, the free space is the available size minus the sizes of the frozen items and the "
                + "bases of the others.", () -> {
            FlexLayout maximum = growers(100, 50, 10);
            maximum.setProperty(0, Make.MAXIMUM, 30);
            line("the size of a frozen item", maximum, 1, 0, 30, 70);
            FlexLayout minimum = growers(100, 10, 10);
            minimum.setProperty(0, Make.MINIMUM, 40);
            line("the basis of another", minimum, 1, 0, 50, 50);
            FlexLayout gap = growers(100, 10, 10);
            gap.setGaps(21, 0);
            line("the available size", gap, 1, 0, 40, 39);
            FlexLayout large = Make.row(60, 100, 20);
            large.setProperty(0, Make.MAXIMUM, 50);
            // 60 too much by 100 and 20, not 10 by 50 and 20.
            line("the basis of one that shrinks", large, 1, 0, 50, 10);
        });
    }

    private static void growing() {
        Sentence.test("If the line grows and the free space is greater than 0, it is divided among the items that are "
                + "not frozen, in layout sequence, with their grow factors as weights, and each one's share is added "
                + "to its basis.", () -> {
            line("one pixel", growers(21, 10, 10), 1, 0, 11, 10);
            FlexLayout layout = growers(11, 0, 0, 0);
            line("in layout sequence", layout, 1, 0, 4, 4, 3);
            Make.setAll(layout, Make.ORDER, 2, 1, 0);
            line("in the other sequence", layout, 1, 0, 3, 4, 4);
            layout.setProperty(1, Make.GROW, 0);
            line("not to a frozen one", layout, 1, 0, 5, 0, 6);
            Make.setAll(layout, Make.GROW, 99, 1, 0);
            layout.setMainSize(9999);
            // 9999 * 99 / 100 is 9899 and 1 is left, remainders 1 and 99.
            line("with their factors", layout, 1, 0, 9899, 100, 0);
            Make.setAll(layout, Make.BASIS, 3000, 2000, 1000);
            line("added to the basis", layout, 1, 0, 6959, 2040, 1000);
        });
    }

    private static void shrinking() {
        Sentence.test("If the line shrinks and the free space is less than 0, its absolute value is divided likewise "
                + "with the products of shrink factor and basis as weights, and each share is subtracted from the "
                + "basis;", () -> {
            line("one pixel", Make.row(19, 10, 10), 1, 0, 9, 10);
            FlexLayout layout = Make.row(19, 10, 10, 10);
            line("in layout sequence", layout, 1, 0, 6, 6, 7);
            Make.setAll(layout, Make.ORDER, 2, 1, 0);
            line("in the other sequence", layout, 1, 0, 7, 6, 6);
            layout.setProperty(1, Make.SHRINK, 0);
            line("not from a frozen one", layout, 1, 0, 5, 10, 4);
            FlexLayout products = Make.row(60, 60, 20, 20);
            Make.setAll(products, Make.SHRINK, 1, 1, 4);
            // 40 by 60, 20 and 80.
            line("products", products, 1, 0, 45, 15, 0);
            Make.setAll(products, Make.SHRINK, 99, 33, 1);
            // 40 by 5940, 660 and 20: 35, 3 and 0 with the remainders 5900, 6540 and 800.
            line("large factors", products, 1, 0, 24, 16, 20);
            FlexLayout large = Make.row(9999, 9999, 9999, 9999, 9999);
            Make.setAll(large, Make.SHRINK, 99, 99, 99, 1);
            // 29997 by 99, 99, 99 and 1: 9965 with a remainder of 133 each, and 100 with one of 197.
            line("more than an int holds", large, 1, 0, 33, 34, 34, 9898);
        });
    }

    private static void noProducts() {
        Sentence.test("if all these products are 0, nothing is subtracted.", () -> {
            FlexLayout layout = Make.row(0, 0, 0);
            layout.setGaps(7, 0);
            line("bases of 0", layout, 1, -7, 0, 0);
            FlexLayout frozen = Make.row(50, 60, 0);
            Make.setAll(frozen, Make.SHRINK, 0, 99);
            line("the only product is of a frozen item", frozen, 1, -10, 60, 0);
            frozen.setProperty(0, Make.SHRINK, 1);
            line("one product is enough", frozen, 1, 0, 50, 0);
            FlexLayout later = Make.row(0, 10, 0);
            later.setProperty(0, Make.MINIMUM, 5);
            line("none is left in the second round", later, 2, -5, 5, 0);
        });
    }

    private static void otherwiseBasis() {
        Sentence.test("Otherwise each item has its basis.", () -> {
            line("no free space", Make.row(100, 60, 40), 1, 0, 60, 40);
            line("no free space, no sizes", Make.row(0, 0, 0), 1, 0, 0, 0);
            FlexLayout layout = Make.row(100, 100, 50);
            layout.setProperty(0, Make.MAXIMUM, 50);
            line("no free space in the second round", layout, 2, 0, 50, 50);
        });
    }

    private static void clamping() {
        Sentence.test("The sizes that result are clamped.", () -> {
            FlexLayout below = Make.row(0, 1, 50);
            below.setGaps(99, 0);
            line("never less than 0", below, 1, -99, 0, 0);
            FlexLayout maximum = growers(100, 0);
            maximum.setProperty(0, Make.MAXIMUM, 99);
            line("one more than the maximum", maximum, 1, 1, 99);
            maximum.setProperty(0, Make.MAXIMUM, 100);
            line("the maximum", maximum, 1, 0, 100);
            FlexLayout minimum = Make.row(50, 100);
            minimum.setProperty(0, Make.MINIMUM, 51);
            line("one less than the minimum", minimum, 1, -1, 51);
            minimum.setProperty(0, Make.MINIMUM, 50);
            line("the minimum", minimum, 1, 0, 50);
            FlexLayout crossed = growers(100, 0);
            crossed.setProperty(0, Make.MAXIMUM, 20);
            crossed.setProperty(0, Make.MINIMUM, 60);
            line("the minimum after the maximum", crossed, 1, 40, 60);
        });
    }

    private static void violations() {
        Sentence.untested("The violation of an item is its clamped size minus the size before.");
        Sentence.test("If the violations add up to 0, all items are frozen at their clamped sizes.", () -> {
            line("no violations", growers(90, 0, 0, 0), 1, 0, 30, 30, 30);
            FlexLayout layout = growers(90, 0, 0, 0);
            layout.setProperty(0, Make.MAXIMUM, 20);
            layout.setProperty(1, Make.MINIMUM, 40);
            line("10 and -10", layout, 1, 0, 20, 40, 30);
            layout.setProperty(1, Make.MINIMUM, 41);
            line("11 and -10", layout, 3, 0, 20, 41, 29);
            layout.setProperty(1, Make.MINIMUM, 39);
            line("9 and -10", layout, 3, 0, 20, 39, 31);
        });
        Sentence.test("If the sum is greater than 0, the items whose violation is greater than 0 are frozen at their "
                + "clamped sizes;", () -> {
            FlexLayout layout = growers(100, 0, 0, 0);
            layout.setProperty(0, Make.MAXIMUM, 30);
            layout.setProperty(1, Make.MINIMUM, 60);
            line("the maximum holds no longer", layout, 2, 0, 20, 60, 20);
            FlexLayout shrinker = Make.row(99, 50, 50);
            shrinker.setProperty(0, Make.MINIMUM, 50);
            line("a violation of 1", shrinker, 2, 0, 50, 49);
        });
        Sentence.test("if it is less than 0, those whose violation is less than 0.", () -> {
            FlexLayout layout = growers(100, 0, 0, 0);
            layout.setProperty(0, Make.MAXIMUM, 10);
            layout.setProperty(1, Make.MINIMUM, 35);
            line("the minimum holds no longer", layout, 2, 0, 10, 45, 45);
            FlexLayout grower = growers(21, 10, 10);
            grower.setProperty(0, Make.MAXIMUM, 10);
            line("a violation of -1", grower, 2, 0, 10, 11);
        });
    }
}
