/** Promises 1 to 6: a new object, put, cut, poke, at, length. */
final class StreamTest {
    public static void main(String[] args) {
        Check check = new Check("StreamTest");
        newObject(check);
        puts(check);
        cuts(check);
        pokes(check);
        check.end();
    }

    private static void newObject(Check check) {
        PackDrawer x = new PackDrawer();
        check.bytes("new", x);
        check.told("new", x, -1, -1, 0, 0, 0, 0, 0);
        check.due("new given(0)", x.given(0), PackDrawer.NONE);
        check.due("new at(-1)", x.at(-1), PackDrawer.NONE);
    }

    private static void puts(Check check) {
        PackDrawer x = new PackDrawer();
        for (int v : new int[] {-1, 256, Integer.MIN_VALUE, Integer.MAX_VALUE}) {
            check.due("put(" + v + ")", x.put(v), PackDrawer.BAD);
        }
        check.due("length() behind BAD", x.length(), 0);
        for (int i = 0; i < 160; i++) {
            int v = i == 0 ? 255 : i;
            check.due("put(" + v + ")", x.put(v), i + 1);
        }
        check.due("put(0) to a full one", x.put(0), PackDrawer.FULL);
        check.due("put(256) to a full one", x.put(256), PackDrawer.BAD);
        check.due("length() of a full one", x.length(), 160);
        check.due("at(0)", x.at(0), 255);
        check.due("at(159)", x.at(159), 159);
        check.due("at(160)", x.at(160), PackDrawer.NONE);
        check.due("at(MIN)", x.at(Integer.MIN_VALUE), PackDrawer.NONE);
        check.due("at(MAX)", x.at(Integer.MAX_VALUE), PackDrawer.NONE);
    }

    private static void cuts(Check check) {
        PackDrawer x = Check.of(4, 5, 6);
        check.due("cut(-1)", x.cut(-1), PackDrawer.BAD);
        check.due("cut(4)", x.cut(4), PackDrawer.BAD);
        check.bytes("behind BAD", x, 4, 5, 6);
        check.due("cut(3)", x.cut(3), 0);
        check.due("cut(1)", x.cut(1), 2);
        check.bytes("behind cut(1)", x, 4);
        check.due("put(9)", x.put(9), 2);
        check.bytes("behind put(9)", x, 4, 9);
        check.due("cut(0)", x.cut(0), 2);
        check.due("cut(0) of none", x.cut(0), 0);
        check.bytes("behind cut(0)", x);
    }

    private static void pokes(Check check) {
        PackDrawer x = Check.of(4, 5, 6);
        check.due("poke(3, 1)", x.poke(3, 1), PackDrawer.BAD);
        check.due("poke(-1, 1)", x.poke(-1, 1), PackDrawer.BAD);
        check.due("poke(0, 256)", x.poke(0, 256), PackDrawer.BAD);
        check.due("poke(0, -1)", x.poke(0, -1), PackDrawer.BAD);
        check.bytes("behind BAD", x, 4, 5, 6);
        check.due("poke(0, 255)", x.poke(0, 255), 4);
        check.due("poke(2, 0)", x.poke(2, 0), 6);
        check.due("poke(2, 1)", x.poke(2, 1), 0);
        check.bytes("behind poke", x, 255, 5, 1);
        check.due("poke(0, 0) of none", new PackDrawer().poke(0, 0), PackDrawer.BAD);
    }
}
