/** Promise 2: put. */
final class Promise02PutTest {
    public static void main(String[] args) {
        Check check = new Check("Promise02PutTest");
        howMany(check);
        noByte(check);
        full(check);
        badAheadOfFull(check);
        check.end();
    }

    private static void howMany(Check check) {
        check.sentence("A byte (0 .. 255) more: how many there are");
        PackDrawer x = new PackDrawer();
        check.due("put(0)", x.put(0), 1);
        check.due("put(255)", x.put(255), 2);
        check.due("put(1)", x.put(1), 3);
        check.due("put(254)", x.put(254), 4);
        check.bytes("put", x, 0, 255, 1, 254);
    }

    private static void noByte(Check check) {
        check.sentence("BAD");
        PackDrawer x = Streams.of(7);
        for (int v : new int[] {-1, 256, Integer.MIN_VALUE, Integer.MAX_VALUE}) {
            check.due("put(" + v + ")", x.put(v), PackDrawer.BAD);
            check.bytes("behind put(" + v + ")", x, 7);
        }
    }

    private static void full(Check check) {
        check.sentence("160 at most; FULL");
        PackDrawer x = new PackDrawer();
        for (int i = 0; i < 160; i++) {
            check.due("put(" + i + ")", x.put(i), i + 1);
        }
        check.due("put(0) to a full one", x.put(0), PackDrawer.FULL);
        check.due("put(255) to a full one", x.put(255), PackDrawer.FULL);
        check.due("length()", x.length(), 160);
        for (int i = 0; i < 160; i++) {
            check.due("at(" + i + ")", x.at(i), i);
        }
        x.cut(159);
        check.due("put(9) when one went", x.put(9), 160);
        check.due("at(159)", x.at(159), 9);
        check.due("put(9) to a full one again", x.put(9), PackDrawer.FULL);
    }

    private static void badAheadOfFull(Check check) {
        check.sentence("the first of these that fits: BAD, FULL");
        PackDrawer x = Streams.of(Streams.fullOne());
        check.due("put(256) to a full one", x.put(256), PackDrawer.BAD);
        check.due("put(-1) to a full one", x.put(-1), PackDrawer.BAD);
        check.bytes("a full one", x, Streams.fullOne());
    }
}
