import java.util.Random;

/** Long runs of chance calls, always the same ones: FlexLayout must answer as the Model does, exceptions included. */
public final class ModelTest {
    private static final int RUNS = 2000;
    private static final int CALLS = 512;
    private static final int CALLS_WITH_LOOKS = 60;

    private final Random random;
    private final FlexLayout layout = new FlexLayout();
    private final Model model = new Model();
    private final int scale;
    private final StringBuilder history = new StringBuilder();

    private ModelTest(long seed) {
        random = new Random(seed);
        int[] scales = {3, 20, 120, 1000, 9999};
        scale = scales[random.nextInt(scales.length)];
    }

    public static void main(String[] args) {
        for (int run = 0; run < RUNS && Check.isClean(); run++) {
            ModelTest test = new ModelTest(run);
            boolean looks = run % 2 == 0;
            for (int call = 0; call < (looks ? CALLS_WITH_LOOKS : CALLS) && Check.isClean(); call++) {
                test.step();
                if (looks && call % 5 == 0) {
                    test.lookAtAll();
                }
            }
            if (!Check.isClean()) {
                System.out.println("run " + run + ":" + test.history);
            }
        }
        Check.end();
    }

    private void compare(String name, Check.Call got, Check.Call want) {
        history.append(' ').append(name);
        String answer = answer(got);
        String due = answer(want);
        Check.due(name + " against the model", 0, 0);
        if (!answer.equals(due)) {
            Check.tell(name + " answered " + answer + ", due is " + due);
        }
    }

    private static String answer(Check.Call call) {
        try {
            return Long.toString(call.answer());
        } catch (RuntimeException e) {
            return e.getClass().getName();
        }
    }

    private int upTo(int highest) {
        return random.nextInt(highest + 1);
    }

    /** Mostly a number from low to high, now and then one beside it. */
    private int number(int low, int high) {
        int chance = random.nextInt(60);
        if (chance == 0) {
            return low - 1;
        }
        if (chance == 1) {
            return high + 1;
        }
        if (chance == 2) {
            return random.nextInt();
        }
        return high < low ? low : low + upTo(high - low);
    }

    private int size() {
        return random.nextInt(40) == 0 ? number(0, 9999) : upTo(scale);
    }

    private int value(int property) {
        boolean isSize = Model.HIGH[property] == 9999;
        if (isSize) {
            return Model.LOW[property] < 0 && random.nextInt(3) == 0 ? -1 : size();
        }
        return number(Model.LOW[property], random.nextBoolean() ? Math.min(3, Model.HIGH[property])
                : Model.HIGH[property]);
    }

    private int item() {
        return number(0, model.items() - 1);
    }

    private void step() {
        int kind = random.nextInt(10);
        if (kind < 5) {
            change();
        } else if (kind < 6) {
            text();
        } else {
            look();
        }
    }

    private void change() {
        int a;
        int b;
        switch (random.nextInt(14)) {
            case 0:
                a = random.nextInt(6) == 0 ? size() : Math.min(9999, size() * (1 + upTo(4)));
                compare("setMainSize(" + a + ")", () -> layout.setMainSize(a), () -> model.setMainSize(a));
                return;
            case 1:
                a = random.nextInt(3) == 0 ? -1 : Math.min(9999, size() * (1 + upTo(3)));
                compare("setCrossSize(" + a + ")", () -> layout.setCrossSize(a), () -> model.setCrossSize(a));
                return;
            case 2:
                a = number(0, random.nextBoolean() ? 4 : 99);
                b = number(0, random.nextBoolean() ? 4 : 99);
                compare("setGaps(" + a + ", " + b + ")", () -> layout.setGaps(a, b), () -> model.setGaps(a, b));
                return;
            case 3:
            case 4:
                a = number(0, 4);
                b = number(0, new int[] {3, 2, 5, 4, 6}[Math.floorMod(a, 5)]);
                compare("setSetting(" + a + ", " + b + ")", () -> layout.setSetting(a, b),
                        () -> model.setSetting(a, b));
                return;
            case 5:
            case 6:
            case 7:
                a = size();
                b = size();
                compare("addItem(" + a + ", " + b + ")", () -> layout.addItem(a, b), () -> model.addItem(a, b));
                return;
            case 8:
                a = item();
                compare("removeItem(" + a + ")", () -> layout.removeItem(a), () -> model.removeItem(a));
                return;
            case 9:
                if (random.nextBoolean()) {
                    compare("save()", layout::save, model::save);
                } else {
                    compare("restore()", layout::restore, model::restore);
                }
                return;
            default:
                int item = item();
                a = number(0, 9);
                b = value(Math.floorMod(a, 10));
                compare("setProperty(" + item + ", " + a + ", " + b + ")", () -> layout.setProperty(item, a, b),
                        () -> model.setProperty(item, a, b));
        }
    }

    private void text() {
        StringBuilder text = new StringBuilder();
        int settings = upTo(8);
        for (int i = 0; i < settings; i++) {
            int property = upTo(9);
            text.append("bgsmxcalot".charAt(property)).append(value(property)).append(i + 1 < settings ? " " : "");
        }
        if (text.length() > 0 && random.nextInt(3) == 0) {
            text.setCharAt(upTo(text.length() - 1), "b- 0z\u0130".charAt(upTo(5)));
        }
        for (char letter : text.toString().toCharArray()) {
            compare("feed((char) " + (int) letter + ")", () -> layout.feed(letter), () -> model.feed(letter));
        }
        compare("readItem()", layout::readItem, model::readItem);
    }

    private void look() {
        int a = item();
        int b = number(0, 9);
        int line = number(0, model.lines() - 1);
        int what = number(0, 3);
        switch (random.nextInt(9)) {
            case 0:
                compare("property(" + a + ", " + b + ")", () -> layout.property(a, b), () -> model.property(a, b));
                return;
            case 1:
                compare("box(" + a + ", " + what + ")", () -> layout.box(a, what), () -> model.box(a, what));
                return;
            case 2:
                compare("rounds(" + line + ")", () -> layout.rounds(line), () -> model.rounds(line));
                return;
            case 3:
                compare("freeSpace(" + line + ")", () -> layout.freeSpace(line), () -> model.freeSpace(line));
                return;
            case 4:
                compare("lineCross(" + line + ")", () -> layout.lineCross(line), () -> model.lineCross(line));
                return;
            case 5:
                compare("lineAscent(" + line + ")", () -> layout.lineAscent(line), () -> model.lineAscent(line));
                return;
            case 6:
                lookUnder();
                return;
            case 7:
                int count = number(1, random.nextBoolean() ? 4 : 20);
                compare("narrowest(" + count + ")", () -> layout.narrowest(count), () -> model.narrowest(count));
                return;
            default:
                int pixels = number(0, random.nextBoolean() ? 300 : 99999);
                int weight = random.nextInt(8) == 0 ? b : new int[] {0, 1, 2, 3, 5}[upTo(4)];
                compare("share(" + pixels + ", " + weight + ", " + a + ")", () -> layout.share(pixels, weight, a),
                        () -> model.share(pixels, weight, a));
        }
    }

    private void lookUnder() {
        int x = size() * (1 + upTo(2)) - upTo(2);
        int y = size() - upTo(2);
        compare("itemUnder(" + x + ", " + y + ")", () -> layout.itemUnder(x, y), () -> model.itemUnder(x, y));
        int item = upTo(20);
        if (item < model.items()) {
            int edgeX = model.box(item, 0) + upTo(1) * model.box(item, 2) - upTo(1);
            int edgeY = model.box(item, 1) + upTo(1) * model.box(item, 3) - upTo(1);
            compare("itemUnder(" + edgeX + ", " + edgeY + ")", () -> layout.itemUnder(edgeX, edgeY),
                    () -> model.itemUnder(edgeX, edgeY));
        }
    }

    private void lookAtAll() {
        compare("items()", layout::items, model::items);
        compare("lines()", layout::lines, model::lines);
        compare("crossExtent()", layout::crossExtent, model::crossExtent);
        compare("overlaps()", layout::overlaps, model::overlaps);
        for (int i = 0; i <= model.items(); i++) {
            int item = i;
            compare("lineOf(" + i + ")", () -> layout.lineOf(item), () -> model.lineOf(item));
            compare("itemAt(" + i + ")", () -> layout.itemAt(item), () -> model.itemAt(item));
            compare("hypotheticalSize(" + i + ")", () -> layout.hypotheticalSize(item),
                    () -> model.hypotheticalSize(item));
            compare("overflows(" + i + ")", () -> layout.overflows(item) ? 1 : 0,
                    () -> model.overflows(item) ? 1 : 0);
            for (int j = 0; j < 10; j++) {
                int what = j;
                compare("property(" + i + ", " + j + ")", () -> layout.property(item, what),
                        () -> model.property(item, what));
            }
            for (int j = 0; j < 4; j++) {
                int what = j;
                compare("box(" + i + ", " + j + ")", () -> layout.box(item, what), () -> model.box(item, what));
            }
        }
        for (int i = 0; i <= model.lines(); i++) {
            int line = i;
            compare("rounds(" + i + ")", () -> layout.rounds(line), () -> model.rounds(line));
            compare("freeSpace(" + i + ")", () -> layout.freeSpace(line), () -> model.freeSpace(line));
            compare("lineCross(" + i + ")", () -> layout.lineCross(line), () -> model.lineCross(line));
            compare("lineAscent(" + i + ")", () -> layout.lineAscent(line), () -> model.lineAscent(line));
        }
    }
}
