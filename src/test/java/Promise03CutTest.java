/** Promise 3: cut. */
final class Promise03CutTest {
    public static void main(String[] args) {
        Check check = new Check("Promise03CutTest");
        firstStay(check);
        allAndNone(check);
        notWithin(check);
        gone(check);
        check.end();
    }

    private static void firstStay(Check check) {
        check.sentence("THE STREAM's first n bytes stay: how many went");
        PackDrawer x = Streams.of(4, 5, 6, 7);
        check.due("cut(3)", x.cut(3), 1);
        check.bytes("cut(3)", x, 4, 5, 6);
        check.due("cut(1)", x.cut(1), 2);
        check.bytes("cut(1)", x, 4);
        PackDrawer full = Streams.of(Streams.fullOne());
        check.due("cut(1) of a full one", full.cut(1), 159);
        check.bytes("cut(1) of a full one", full, 255);
    }

    private static void allAndNone(Check check) {
        check.sentence("n is 0, n is its length");
        PackDrawer x = Streams.of(4, 5, 6);
        check.due("cut(3)", x.cut(3), 0);
        check.bytes("cut(3)", x, 4, 5, 6);
        check.due("cut(0)", x.cut(0), 3);
        check.bytes("cut(0)", x);
        check.due("cut(0) of none", x.cut(0), 0);
        PackDrawer full = Streams.of(Streams.fullOne());
        check.due("cut(160) of a full one", full.cut(160), 0);
        check.due("cut(0) of a full one", full.cut(0), 160);
        check.due("length()", full.length(), 0);
    }

    private static void notWithin(Check check) {
        check.sentence("BAD: n is not 0 to its length");
        PackDrawer x = Streams.of(4, 5, 6);
        for (int n : new int[] {-1, 4, 160, Integer.MIN_VALUE, Integer.MAX_VALUE}) {
            check.due("cut(" + n + ")", x.cut(n), PackDrawer.BAD);
            check.bytes("behind cut(" + n + ")", x, 4, 5, 6);
        }
        check.due("cut(1) of none", new PackDrawer().cut(1), PackDrawer.BAD);
        check.due("cut(161) of a full one", Streams.of(Streams.fullOne()).cut(161), PackDrawer.BAD);
    }

    private static void gone(Check check) {
        check.sentence("THE STREAM's first n bytes stay: the others are gone");
        PackDrawer x = Streams.of(1, 9, 0, 9);
        x.cut(2);
        check.due("at(2)", x.at(2), PackDrawer.NONE);
        check.due("poke(2, 1)", x.poke(2, 1), PackDrawer.BAD);
        check.due("open(400, 800, 1500)", x.open(400, 800, 1500), -11);
        check.due("put(8)", x.put(8), 3);
        check.bytes("put behind cut", x, 1, 9, 8);
    }
}
