/** Promise 13: given. */
final class Promise13GivenTest {
    public static void main(String[] args) {
        Check check = new Check("Promise13GivenTest");
        bytes(check);
        none(check);
        behindAFault(check);
        outermostAlone(check);
        then(check);
        check.end();
    }

    private static int read(PackDrawer x, boolean plain, int output, int held, int steps) {
        return plain ? x.plain(output, held, steps) : x.open(output, held, steps);
    }

    private static void bytes(Check check) {
        check.sentence("Byte i that the outermost PACK gave then");
        for (boolean plain : new boolean[] {false, true}) {
            PackDrawer x = Streams.of(3, 0, 255, 7, 0, 6);
            check.due("opened", read(x, plain, 400, 800, 1500), 3);
            check.given("opened", x, 0, 255, 7);
            PackDrawer most = Streams.of(Streams.fourHundred());
            check.due("opened", read(most, plain, 400, 800, 1500), 400);
            check.given("opened", most, Streams.times(400, 1));
            check.due("given(399)", most.given(399), 1);
            check.due("given(400)", most.given(400), PackDrawer.NONE);
        }
    }

    private static void none(Check check) {
        check.sentence("NONE");
        PackDrawer x = Streams.of(3, 0, 255, 7, 0, 6);
        check.due("given(0) before any", x.given(0), PackDrawer.NONE);
        x.open(400, 800, 1500);
        for (int i : new int[] {-1, 3, 4, 399, 400, 799, 800, Integer.MIN_VALUE, Integer.MAX_VALUE}) {
            check.due("given(" + i + ")", x.given(i), PackDrawer.NONE);
        }
        x.cut(0);
        x.put(0);
        x.put(0);
        x.open(400, 800, 1500);
        check.due("given(0) of a pack that gave none", x.given(0), PackDrawer.NONE);
        x.open(400, 800, 0);
        check.due("given(0) of a pack that began with a FAULT", x.given(0), PackDrawer.NONE);
    }

    private static void behindAFault(Check check) {
        check.sentence("(behind a FAULT, too: what it gave till then)");
        for (boolean plain : new boolean[] {false, true}) {
            PackDrawer x = Streams.of(3, 8, 9, 10, 0, 0);
            check.due("SUM", read(x, plain, 400, 800, 1500), -14);
            check.given("SUM", x, 8, 9, 10);
            check.due("OUTPUT", read(x, plain, 2, 800, 1500), -18);
            check.given("OUTPUT", x, 8, 9);
            check.due("OUTPUT of none", read(x, plain, 0, 800, 1500), -18);
            check.given("OUTPUT of none", x);
            check.due("HELD", read(x, plain, 400, 1, 1500), -20);
            check.given("HELD", x, 8);
            check.due("STEPS", read(x, plain, 400, 800, 4), -19);
            check.given("STEPS", x, 8, 9, 10);
        }
    }

    private static void outermostAlone(Check check) {
        check.sentence("that the outermost PACK gave: not what an INNER gave that did not end");
        for (boolean plain : new boolean[] {false, true}) {
            PackDrawer x = Streams.of(1, 5, 192, 5, 2, 6, 7, 0, 13, 0, 18);
            check.due("HELD in the INNER", read(x, plain, 400, 2, 1500), -20);
            check.given("HELD in the INNER", x, 5);
            check.due("STEPS behind the INNER's bytes", read(x, plain, 400, 800, 6), -19);
            check.given("STEPS behind the INNER's bytes", x, 5);
            check.due("HELD amid what comes from it", read(x, plain, 400, 4, 1500), -20);
            check.given("HELD amid what comes from it", x, 5, 6);
            check.due("sound", read(x, plain, 400, 5, 1500), 3);
            check.given("sound", x, 5, 6, 7);
        }
    }

    private static void then(Check check) {
        check.sentence("gave then: the latest opening's bytes, whatever becomes of THE STREAM");
        PackDrawer x = Streams.of(2, 8, 9, 0, 17);
        x.open(400, 800, 1500);
        x.poke(1, 7);
        x.plant(1);
        x.shorter(400, 800, 1500);
        x.draw(5, 0, 5);
        x.plain(400, 801, 1500);
        check.given("behind other calls", x, 8, 9);
        x.bomb(0, 2, 4);
        x.plain(400, 800, 1500);
        check.given("the latest", x, 4);
    }
}
