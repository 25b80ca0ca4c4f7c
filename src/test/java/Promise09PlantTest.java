import java.util.Arrays;

/** Promise 9: plant. */
final class Promise09PlantTest {
    private static final int[] ALL = {1, 2, 3, 4, 5, 7};
    private static final int[] IN_ITEMS = {2, 3, 7};

    private final Check check = new Check("Promise09PlantTest");

    public static void main(String[] args) {
        Promise09PlantTest test = new Promise09PlantTest();
        test.lastByteGoes();
        test.oneMore();
        test.distance();
        test.distanceThatIsThere();
        test.xored();
        test.seven();
        test.behindAgain();
        test.leastPlace();
        test.noSuchThing();
        test.full();
        test.fullAheadOfNo();
        test.thereIsAFault();
        test.greatestBounds();
        test.nothingToBePlantedIn();
        test.drawn();
        test.check.end();
    }

    private void one(int what, int answer, int[] before, int... behind) {
        PackDrawer x = Streams.of(before);
        check.due("plant(" + what + ")", x.plant(what), answer);
        check.bytes("plant(" + what + ")", x, behind);
        check.nothingOpened("plant(" + what + ")", x);
    }

    private void refused(int what, int answer, int... before) {
        one(what, answer, before, before);
    }

    private static boolean inItem(int what) {
        return Arrays.stream(IN_ITEMS).anyMatch(w -> w == what);
    }

    private void lastByteGoes() {
        check.sentence("1 its last byte goes");
        one(1, 1, Streams.row(1, 9, 0, 9), 1, 9, 0);
        one(1, 1, Streams.row(0, 0), 0);
        int[] full = Streams.fullOne();
        one(1, 1, full, Arrays.copyOf(full, 159));
    }

    /** An INNER's n is 156 at most in a stream without a fault, so that it never comes to 256. */
    private void oneMore() {
        check.sentence("2 the n of the INNER at the least PLACE is one more (256: 0)");
        one(2, 2, Streams.row(192, 2, 0, 0, 0, 0), 192, 3, 0, 0, 0, 0);
        one(2, 2, Streams.row(128, 192, 4, 1, 5, 0, 5, 0, 10), 128, 192, 5, 1, 5, 0, 5, 0, 10);
        one(2, 2, Streams.row(254, 6, 254, 2, 0, 0, 0, 0, 0, 0), 254, 7, 254, 2, 0, 0, 0, 0, 0, 0);
        int[] longest = Streams.nested(1, Streams.pack(Streams.joined(Streams.row(255, 0, 151),
            Streams.times(151, 0)), 0), 0);
        int[] behind = longest.clone();
        behind[1] = 157;
        one(2, 2, longest, behind);
    }

    private void distance() {
        check.sentence("3 the DISTANCE of the COPY at the least PLACE becomes 255");
        one(3, 3, Streams.row(1, 7, 64, 0, 0, 21), 1, 7, 64, 255, 0, 21);
        one(3, 3, Streams.row(1, 0, 127, 0, 64, 0, 0, 0), 1, 0, 127, 255, 64, 0, 0, 0);
        // A pack that gave 255 bytes, and no more.
        one(3, 3, Streams.row(177, 5, 1, 1, 1, 1, 1, 64, 0, 0, 1), 177, 5, 1, 1, 1, 1, 1, 64, 255, 0, 1);
    }

    private void distanceThatIsThere() {
        check.sentence("the KIND that THE STREAM has then under the greatest bounds (0: none)");
        one(3, 0, Streams.row(191, 4, 1, 1, 1, 1, 64, 0, 0, 6), 191, 4, 1, 1, 1, 1, 64, 255, 0, 6);
        one(3, 0, Streams.row(190, 4, 1, 1, 1, 1, 64, 0, 0, 2), 190, 4, 1, 1, 1, 1, 64, 255, 0, 2);
        one(3, 4, Streams.row(190, 4, 9, 1, 1, 1, 64, 0, 0, 2), 190, 4, 9, 1, 1, 1, 64, 255, 0, 2);
    }

    private void xored() {
        check.sentence("4 its last byte is xored with 1");
        one(4, 4, Streams.row(1, 9, 0, 9), 1, 9, 0, 8);
        one(4, 4, Streams.row(0, 0), 0, 1);
        one(4, 4, Streams.row(1, 255, 0, 255), 1, 255, 0, 254);
        one(4, 4, Streams.row(1, 254, 0, 254), 1, 254, 0, 255);
    }

    private void seven() {
        check.sentence("5 a byte 7 comes behind");
        one(5, 5, Streams.row(1, 9, 0, 9), 1, 9, 0, 9, 7);
        one(5, 5, Streams.row(0, 0), 0, 0, 7);
    }

    private void behindAgain() {
        check.sentence("7 the byte behind the AGAIN at the least PLACE becomes 0");
        one(7, 7, Streams.row(128, 1, 5, 0, 10), 128, 0, 5, 0, 10);
        one(7, 7, Streams.row(191, 192, 4, 1, 4, 0, 4, 0, 4), 191, 0, 4, 1, 4, 0, 4, 0, 4);
        one(7, 7, Streams.row(1, 0, 128, 129, 1, 0, 0, 0), 1, 0, 128, 0, 1, 0, 0, 0);
    }

    private void leastPlace() {
        check.sentence("at the least PLACE");
        int[] inInner = {255, 0, 2, 64, 128, 192, 10, 2, 192, 64, 65, 1, 128, 1, 0, 0, 192, 0, 128};
        check.due("it is sound", Streams.of(inInner).open(400, 800, 1500), 9);
        int[] lie = inInner.clone();
        lie[6]++;
        one(2, 2, inInner, lie);
        int[] back = inInner.clone();
        back[11] = 255;
        one(3, 3, inInner, back);
        int[] not = inInner.clone();
        not[13] = 0;
        one(7, 7, inInner, not);
        check.sentence("at the least PLACE: behind AGAIN, and behind an INNER that ended");
        one(3, 3, Streams.row(1, 0, 128, 129, 64, 0, 64, 0, 0, 0), 1, 0, 128, 129, 64, 255, 64, 0, 0, 0);
        one(3, 3, Streams.row(192, 4, 1, 0, 0, 0, 64, 0, 0, 0), 192, 4, 1, 0, 0, 0, 64, 255, 0, 0);
        one(7, 7, Streams.row(192, 2, 0, 0, 128, 1, 0, 0, 0), 192, 2, 0, 0, 128, 0, 0, 0, 0);
    }

    private void noSuchThing() {
        check.sentence("BAD: what is planted (1 .. 5, 7)");
        for (int what : new int[] {0, 6, 8, -1, Integer.MIN_VALUE, Integer.MAX_VALUE}) {
            refused(what, PackDrawer.BAD, 1, 9, 0, 9);
            refused(what, PackDrawer.BAD, 1, 9, 0, 8);
            refused(what, PackDrawer.BAD);
            refused(what, PackDrawer.BAD, Streams.fullOne());
        }
    }

    private void full() {
        check.sentence("FULL (5)");
        refused(5, PackDrawer.FULL, Streams.fullOne());
        int[] full = Streams.fullOne();
        full[159] = 154;
        one(4, 4, Streams.fullOne(), full);
        int[] oneLess = Streams.pack(Streams.joined(Streams.row(255, 0, 154), Streams.times(154, 1)), 154);
        one(5, 5, oneLess, Streams.joined(oneLess, Streams.row(7)));
        for (int what : IN_ITEMS) {
            refused(what, PackDrawer.NO, Streams.fullOne());
        }
    }

    private void fullAheadOfNo() {
        check.sentence("the first of these that fits: FULL, NO");
        refused(5, PackDrawer.FULL, Streams.times(160, 0));
        refused(4, PackDrawer.NO, Streams.times(160, 0));
    }

    private void thereIsAFault() {
        check.sentence("NO: there is a FAULT");
        int[][] faults = {{}, {1, 9, 0}, {192, 3, 0, 0, 0, 0}, {1, 9, 64, 1, 0, 9}, {1, 9, 0, 8}, {0, 0, 7},
            Streams.nested(6, Streams.row(0, 0), 0), {128, 0, 0}};
        for (int what : ALL) {
            for (int[] fault : faults) {
                refused(what, PackDrawer.NO, fault);
            }
        }
    }

    private void greatestBounds() {
        check.sentence("without a FAULT (under the greatest bounds)");
        int[][] justWithin = {Streams.fourHundred(), Streams.eightHundredHeld(), Streams.fifteenHundredSteps()};
        for (int[] stream : justWithin) {
            one(5, 5, stream, Streams.joined(stream, Streams.row(7)));
        }
        int[] more = {1, 0, 176, 134, 1, 1, 0, 400 % 256};
        int[] held = Streams.joined(Streams.row(1, 0), Streams.eightHundredHeld());
        int[] steps = Streams.joined(Streams.row(255, 0, 0), Streams.fifteenHundredSteps());
        for (int what : ALL) {
            refused(what, PackDrawer.NO, more);
            refused(what, PackDrawer.NO, held);
            refused(what, PackDrawer.NO, steps);
        }
    }

    private void nothingToBePlantedIn() {
        check.sentence("NO: nothing to be planted in");
        // Bytes of RAW and WIDE, a SUM, an n that look like items are none.
        int[] lookalikes = {2, 192, 64, 255, 0, 3, 128, 64, 192, 0, 128};
        for (int what : IN_ITEMS) {
            refused(what, PackDrawer.NO, 0, 0);
            refused(what, PackDrawer.NO, lookalikes);
        }
        int[] longInner = Streams.nested(1, Streams.pack(Streams.joined(Streams.row(255, 0, 125),
            Streams.times(125, 0)), 0), 0);
        check.due("an n like AGAIN", longInner[1], 130);
        refused(7, PackDrawer.NO, longInner);
        refused(3, PackDrawer.NO, 128, 1, 128, 0, 0);
        refused(2, PackDrawer.NO, 1, 192, 64, 0, 0, 64);
    }

    private void drawn() {
        check.sentence("A FAULT is PLANTED: in streams that are drawn, its KIND is what is planted");
        PackDrawer x = new PackDrawer();
        for (int seed = 0; seed < 500; seed++) {
            for (int what : ALL) {
                x.draw(seed, seed % 3, 5);
                int answer = x.plant(what);
                check.holds("plant(" + what + ") by " + seed, answer == what || answer == PackDrawer.NO && inItem(what));
                check.due("open", x.open(400, 800, 1500) < 0 ? 1 : 0, answer > 0 ? 1 : 0);
            }
        }
    }
}
