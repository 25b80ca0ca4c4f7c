import java.util.Random;

/** All promises: runs of calls, right and wrong ones, by the program and by the model. */
final class ModelTest {
    private static final int RUNS = 1500;
    private static final int MOST_CALLS = 512;
    private static final int[] NUMBERS = {Integer.MIN_VALUE, -2, -1, 0, 1, 2, 6, 7, 12, 13, 65, 66, 159, 160, 161,
        255, 256, 399, 400, 401, 800, 801, 1500, 1501, Integer.MAX_VALUE};

    private final Check check;
    private final Random random;
    private final PackDrawer x = new PackDrawer();
    private final Model model = new Model();
    private final String run;

    private ModelTest(Check check, int run) {
        this.check = check;
        this.random = new Random(run);
        this.run = "run " + run + ": ";
    }

    public static void main(String[] args) {
        Check check = new Check("ModelTest");
        for (int run = 0; run < RUNS; run++) {
            new ModelTest(check, run).go();
        }
        check.end();
    }

    private void go() {
        int calls = 0;
        while (calls < MOST_CALLS - 60) {
            calls += makeStream();
            for (int i = random.nextInt(3); i > 0; i--) {
                calls += change();
            }
            calls += openBoth();
            if (random.nextInt(6) == 0) {
                calls += wrongNumbers();
            }
        }
    }

    private void due(String call, int got, int want) {
        check.due(run + call + " of " + model.stream, got, want);
    }

    private int makeStream() {
        switch (random.nextInt(6)) {
            case 0:
            case 1:
                long seed = random.nextBoolean() ? random.nextLong() : random.nextInt(5) - 2;
                int sort = random.nextInt(3);
                int size = 1 + random.nextInt(5);
                due("draw", x.draw(seed, sort, size), model.draw(seed, sort, size));
                return 1;
            case 2:
                int levels = random.nextInt(random.nextBoolean() ? 4 : 13);
                int times = 2 + random.nextInt(random.nextBoolean() ? 5 : 64);
                int b = random.nextInt(256);
                due("bomb", x.bomb(levels, times, b), model.bomb(levels, times, b));
                return 1;
            case 3:
                return handMade(new int[] {0, 1, 2, 64, 65, 128, 129, 192, 4, 3, 255});
            case 4:
                due("cut", x.cut(0), model.cut(0));
                return 1 + putPack(1 + random.nextInt(7), 25);
            default:
                return 0;
        }
    }

    private int handMade(int[] likely) {
        int count = random.nextInt(20);
        due("cut", x.cut(0), model.cut(0));
        for (int i = 0; i < count; i++) {
            int v = random.nextInt(8) == 0 ? random.nextInt(256) : likely[random.nextInt(likely.length)];
            due("put", x.put(v), model.put(v));
        }
        return count + 1;
    }

    /** A pack whose frame is mostly sound, but not its sums. */
    private int putPack(int deep, int most) {
        int calls = 0;
        for (int i = random.nextInt(3); i >= 0 && calls < most; i--) {
            while (random.nextInt(3) == 0 && calls < most) {
                calls += put(128 + random.nextInt(random.nextBoolean() ? 2 : 64));
            }
            if (random.nextInt(3) == 0 && deep > 1) {
                calls += put(192 + random.nextInt(63));
                int nPlace = x.length();
                calls += put(0) + putPack(deep - 1, most / 2) + 1;
                int n = Math.max(0, x.length() - nPlace - 1 + (random.nextInt(5) == 0 ? random.nextInt(3) - 1 : 0));
                due("poke", x.poke(nPlace, n), model.poke(nPlace, n));
            } else if (random.nextInt(3) == 0) {
                calls += put(64 + random.nextInt(64)) + put(random.nextInt(4));
            } else if (random.nextInt(3) == 0) {
                calls += put(255) + put(0) + put(random.nextInt(2)) + put(random.nextInt(2) == 0 ? 0 : 1);
            } else {
                calls += put(1) + put(0);
            }
        }
        return calls + put(0) + put(0);
    }

    private int put(int v) {
        due("put", x.put(v), model.put(v));
        return 1;
    }

    private int change() {
        int what = 1 + random.nextInt(7);
        int place = random.nextInt(Math.max(1, model.length()));
        int v = random.nextInt(256);
        switch (random.nextInt(5)) {
            case 0:
            case 1:
                due("plant(" + what + ")", x.plant(what), model.plant(what));
                return 1;
            case 2:
                due("poke", x.poke(place, v), model.poke(place, v));
                return 1;
            case 3:
                due("put", x.put(v), model.put(v));
                return 1;
            default:
                int output = bound(400);
                int held = bound(800);
                int steps = bound(1500);
                due("shorter(" + output + ", " + held + ", " + steps + ")", x.shorter(output, held, steps),
                    model.shorter(output, held, steps));
                return 1;
        }
    }

    private int bound(int most) {
        int sort = random.nextInt(4);
        return sort == 0 ? random.nextInt(20) : sort == 1 ? random.nextInt(most + 1) : most;
    }

    private int openBoth() {
        int output = bound(400);
        int held = bound(800);
        int steps = bound(1500);
        String bounds = "(" + output + ", " + held + ", " + steps + ")";
        int want = model.open(output, held, steps);
        boolean aheadFirst = random.nextBoolean();
        due("open" + bounds, aheadFirst ? x.open(output, held, steps) : x.plain(output, held, steps), want);
        compareTold(bounds);
        due("plain" + bounds, aheadFirst ? x.plain(output, held, steps) : x.open(output, held, steps), want);
        compareTold(bounds);
        for (int i = 0; i < 8; i++) {
            int byteAt = random.nextInt(Math.max(1, model.told(4)) + 1);
            int place = random.nextInt(model.length() + 1);
            due("given(" + byteAt + ")", x.given(byteAt), model.given(byteAt));
            due("at(" + place + ")", x.at(place), model.at(place));
        }
        due("length", x.length(), model.length());
        return 33;
    }

    private void compareTold(String bounds) {
        for (int what = 0; what < 7; what++) {
            due("told(" + what + ") behind " + bounds, x.told(what), model.told(what));
        }
    }

    private int wrongNumbers() {
        int a = number();
        int b = number();
        int c = number();
        String numbers = "(" + a + ", " + b + ", " + c + ")";
        due("put" + numbers, x.put(a), model.put(a));
        due("cut" + numbers, x.cut(a), model.cut(a));
        due("poke" + numbers, x.poke(a, b), model.poke(a, b));
        due("at" + numbers, x.at(a), model.at(a));
        due("draw" + numbers, x.draw(a, b, c), model.draw(a, b, c));
        due("bomb" + numbers, x.bomb(a, b, c), model.bomb(a, b, c));
        due("plant" + numbers, x.plant(a), model.plant(a));
        due("open" + numbers, x.open(a, b, c), model.open(a, b, c));
        due("plain" + numbers, x.plain(a, b, c), model.open(a, b, c));
        due("told" + numbers, x.told(a), model.told(a));
        due("given" + numbers, x.given(a), model.given(a));
        due("shorter" + numbers, x.shorter(a, b, c), model.shorter(a, b, c));
        return 12;
    }

    private int number() {
        return NUMBERS[random.nextInt(NUMBERS.length)];
    }
}
