/** Promises 11 and 12: the input buffer, and reading it as an item. */
public final class ReadItemTest {
    private static final String LETTERS = "bgsmxcalot";

    public static void main(String[] args) {
        feed();
        goodTexts();
        everyLetter();
        wrongTexts();
        wrongNumbers();
        fullContainer();
        Check.end();
    }

    private static void feed() {
        FlexLayout layout = new FlexLayout();
        for (int length = 1; length <= 80; length++) {
            Check.due("feed", layout.feed((char) (length * 800)), length);
        }
        Check.thrown("feed into a full buffer", IllegalStateException.class, () -> layout.feed('b'));
        Check.due("a full buffer of anything", layout.readItem(), -100);
        Check.due("empty after an error", layout.feed('b'), 1);
        Check.due("goes on", layout.feed('1'), 2);
        Check.due("read", layout.readItem(), 0);
        Check.due("empty after reading", layout.feed((char) 65535), 1);
    }

    private static void goodTexts() {
        FlexLayout layout = new FlexLayout();
        Check.due("all properties", Make.read(layout, "b12 g3 s4 m5 x678 c9 a10 l2 o-7 t0"), 0);
        int[] wants = {12, 3, 4, 5, 678, 9, 10, 2, -7, 0};
        for (int property = 0; property < 10; property++) {
            Check.due("property " + property, layout.property(0, property), wants[property]);
        }
        Check.due("one setting", Make.read(layout, "s0"), 1);
        int[] firsts = {0, 0, 0, 0, -1, 0, 0, -1, 0, 1};
        for (int property = 0; property < 10; property++) {
            Check.due("first value of " + property, layout.property(1, property), firsts[property]);
        }
        Check.due("last value holds", Make.read(layout, "b1 b2 g5 b3"), 2);
        Check.due("basis", layout.property(2, Make.BASIS), 3);
        Check.due("leading zeros", Make.read(layout, "b0007 g-0 o-009"), 3);
        Check.due("basis", layout.property(3, Make.BASIS), 7);
        Check.due("grow", layout.property(3, Make.GROW), 0);
        Check.due("order", layout.property(3, Make.ORDER), -9);
        Check.due("back to none", Make.read(layout, "x5 x-1 l3 l-1"), 4);
        Check.due("maximum", layout.property(4, Make.MAXIMUM), -1);
        Check.due("align", layout.property(4, Make.ALIGN), -1);
        String full = "b0001 ".repeat(13) + "g9";
        Check.due("80 characters", full.length(), 80);
        Check.due("a full buffer", Make.read(layout, full), 5);
        Check.due("its last setting", layout.property(5, Make.GROW), 9);
    }

    private static void everyLetter() {
        FlexLayout layout = new FlexLayout();
        for (int letter = 0; letter < 300; letter++) {
            int property = LETTERS.indexOf(letter);
            int got = Make.read(layout, (char) letter + "1");
            Check.due("letter " + letter, got, property >= 0 ? 0 : -100);
            if (property >= 0) {
                Check.due("property of " + (char) letter, layout.property(0, property), 1);
                layout.removeItem(0);
            }
        }
    }

    private static void wrongTexts() {
        FlexLayout layout = new FlexLayout();
        String[] texts = {"", " ", " b1", "b", "b-", "b--1", "b1-", "b 1", "b1 ", "b1  c1", "b1 c", "b1 c-", "b1,c1",
            "b12345", "b-1234", "b-12345", "b1 b12 b123 b12345 ", "bb", "B1", "1b", "b1b2", "b+1", "b1\t", "b1 z",
            "-1", "b1 2", "b1 g2 s3 m4 x5 c6 a7 l1 o1 t1 u", "o-12345", "b\u0661", "\u0162" + "1", "b1\u0120"};
        int[] places = {0, 0, 0, 1, 2, 2, 2, 1, 3, 3, 4, 5, 2,
            5, 0, 6, 17, 1, 0, 0, 2, 1, 2, 3,
            0, 3, 30, 6, 1, 0, 2};
        Check.due("texts and places", texts.length, places.length);
        for (int i = 0; i < texts.length; i++) {
            Check.due("text '" + texts[i] + "'", Make.read(layout, texts[i]), -100 - places[i]);
            Check.due("nothing was added by '" + texts[i] + "'", layout.items(), 0);
        }
        String full = "b0001 ".repeat(13) + "g-";
        Check.due("ends too early at 80", Make.read(layout, full), -180);
        Check.due("ends in a space at 80", Make.read(layout, "b0001 ".repeat(12) + "b001 b1 "), -180);
    }

    private static void wrongNumbers() {
        FlexLayout layout = new FlexLayout();
        String[] wrongs = {"b-1", "g100", "g-1", "s100", "m-1", "x-2", "c-1", "a-1", "l5", "l-2", "o10", "o-10", "t2",
            "t-1", "s9999"};
        for (String wrong : wrongs) {
            Check.due(wrong, Make.read(layout, wrong), -100);
            Check.due("b1 " + wrong, Make.read(layout, "b1 " + wrong), -103);
            Check.due(wrong + " twice", Make.read(layout, "b1234 " + wrong + " " + wrong), -106);
        }
        Check.due("the first wrong number", Make.read(layout, "b1 o-9 t7 g100"), -107);
        Check.due("a wrong number that is set again", Make.read(layout, "g1 t2 t1"), -103);
        Check.due("the rest of the text goes first", Make.read(layout, "t2 b1 z"), -106);
        Check.due("even at its end", Make.read(layout, "t2 b"), -104);
        Check.due("nothing was added", layout.items(), 0);
        String[] rights = {"b9999", "g99", "s99", "m9999", "x9999", "x-1", "c9999", "a9999", "l4", "l-1", "o9", "o-9",
            "t1", "t0"};
        for (int i = 0; i < rights.length; i++) {
            Check.due(rights[i], Make.read(layout, rights[i]), i);
        }
    }

    private static void fullContainer() {
        FlexLayout layout = new FlexLayout();
        for (int item = 0; item < 20; item++) {
            layout.addItem(1, 1);
        }
        Make.feedAll(layout, "b42");
        Check.thrown("no room", IllegalStateException.class, layout::readItem);
        Check.due("still 20", layout.items(), 20);
        layout.removeItem(0);
        Check.due("the buffer is kept", layout.readItem(), 19);
        Check.due("and read", layout.property(19, Make.BASIS), 42);
        Make.feedAll(layout, "?");
        Check.thrown("no room for a wrong text either", IllegalStateException.class, layout::readItem);
        Check.due("kept again", layout.feed('!'), 2);
    }
}
