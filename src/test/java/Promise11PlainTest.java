/** Promise 11: plain, as open(). */
final class Promise11PlainTest {
    private final Check check = new Check("Promise11PlainTest");
    private final PackDrawer ahead = new PackDrawer();
    private final PackDrawer plain = new PackDrawer();

    public static void main(String[] args) {
        Promise11PlainTest test = new Promise11PlainTest();
        new Openings(test.check, PackDrawer::plain).all();
        test.sameOfDrawn();
        test.sameOfPlanted();
        test.sameOfBombs();
        test.check.end();
    }

    /** Both hold the same stream: each bound from 0 on to one more than is needed. */
    private void sameUnderEachBound(String what) {
        ahead.open(400, 800, 1500);
        int steps = Math.min(1500, ahead.told(2) + 1);
        int held = Math.min(800, ahead.told(3) + 1);
        int output = Math.min(400, ahead.told(4) + 1);
        for (int bound = 0; bound <= steps; bound++) {
            same(what, 400, 800, bound);
        }
        for (int bound = 0; bound <= held; bound++) {
            same(what, 400, bound, 1500);
        }
        for (int bound = 0; bound <= output; bound++) {
            same(what, bound, 800, 1500);
        }
    }

    private void same(String what, int output, int held, int steps) {
        String call = what + " under " + output + ", " + held + ", " + steps;
        check.due(call, plain.plain(output, held, steps), ahead.open(output, held, steps));
        for (int i = 0; i <= 6; i++) {
            check.due(call + " told(" + i + ")", plain.told(i), ahead.told(i));
        }
        for (int i = 0; i <= ahead.told(4); i++) {
            check.due(call + " given(" + i + ")", plain.given(i), ahead.given(i));
        }
    }

    private void sameOfDrawn() {
        check.sentence("the same bytes, or the same first fault at the same place: of drawn streams");
        for (int seed = 0; seed < 60; seed++) {
            ahead.draw(seed, seed % 3, 5);
            plain.draw(seed, seed % 3, 5);
            sameUnderEachBound("draw(" + seed + ")");
        }
    }

    private void sameOfPlanted() {
        check.sentence("the same first fault at the same place: of planted streams");
        for (int seed = 0; seed < 20; seed++) {
            for (int what : new int[] {1, 2, 3, 4, 5, 7}) {
                ahead.draw(seed, seed % 3, 5);
                plain.draw(seed, seed % 3, 5);
                check.due("plant", plain.plant(what), ahead.plant(what));
                sameUnderEachBound("draw(" + seed + "), plant(" + what + ")");
            }
        }
    }

    private void sameOfBombs() {
        check.sentence("the same first fault at the same place: of bombs");
        for (int levels = 0; levels <= 7; levels++) {
            for (int times : new int[] {2, 3, 19, 65}) {
                ahead.bomb(levels, times, 255);
                plain.bomb(levels, times, 255);
                sameUnderEachBound("bomb(" + levels + ", " + times + ")");
            }
        }
    }
}
