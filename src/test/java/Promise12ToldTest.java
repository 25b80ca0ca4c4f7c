/** Promise 12: told. */
final class Promise12ToldTest {
    public static void main(String[] args) {
        Check check = new Check("Promise12ToldTest");
        beforeAny(check);
        noSuchThing(check);
        noFault(check);
        behindAFault(check);
        latest(check);
        stays(check);
        check.end();
    }

    private static void beforeAny(Check check) {
        check.sentence("0 before any (0, 1: NONE)");
        PackDrawer x = new PackDrawer();
        check.nothingOpened("new", x);
        x.draw(0, 0, 5);
        x.plant(4);
        x.shorter(400, 800, 1500);
        x.bomb(12, 65, 255);
        x.plant(4);
        check.nothingOpened("before any", x);
        check.due("open(401, 0, 0)", x.open(401, 0, 0), PackDrawer.BAD);
        check.due("plain(0, 0, -1)", x.plain(0, 0, -1), PackDrawer.BAD);
        check.nothingOpened("behind BAD", x);
    }

    private static void noSuchThing(Check check) {
        check.sentence("BAD: what is not 0 to 6");
        PackDrawer x = Streams.of(1, 5, 0, 5);
        for (int i = 0; i < 2; i++) {
            for (int what : new int[] {-1, 7, -2, 8, Integer.MIN_VALUE, Integer.MAX_VALUE}) {
                check.due("told(" + what + ")", x.told(what), PackDrawer.BAD);
            }
            x.open(400, 800, 1500);
        }
        check.told("behind BAD", x, -1, -1, 3, 1, 1, 1, 2);
    }

    private static void noFault(Check check) {
        check.sentence("0 the KIND, 1 the PLACE of the FAULT (NONE: no FAULT)");
        PackDrawer x = Streams.of(0, 0);
        x.open(400, 800, 1500);
        check.told("open", x, -1, -1, 1, 0, 0, 1, 1);
        x.open(400, 800, 0);
        check.told("open with a FAULT", x, 9, 0, 0, 0, 0, 1, 0);
        x.plain(400, 800, 1500);
        check.told("plain without one", x, -1, -1, 1, 0, 0, 1, 1);
    }

    private static void behindAFault(Check check) {
        check.sentence("4 bytes that the outermost PACK gave (also behind a FAULT)");
        PackDrawer x = Streams.of(1, 5, 192, 4, 1, 6, 0, 7, 0, 11);
        check.due("open", x.open(400, 800, 1500), -14);
        check.told("open", x, 4, 7, 6, 2, 1, 2, 4);
        check.due("plain", x.plain(400, 800, 1500), -14);
        check.told("plain", x, 4, 7, 6, 2, 1, 2, 4);
        check.sentence("2 STEPS done, 3 HELD at most, 5 how many PACKS deep at most, 6 ITEMS that began");
        // The most is not what was at the end.
        PackDrawer y = Streams.of(192, 8, 192, 4, 1, 3, 0, 3, 0, 3, 192, 2, 0, 0, 0, 2);
        for (int i = 0; i < 2; i++) {
            check.due("the outermost SUM is wrong",
                i == 0 ? y.open(400, 800, 1500) : y.plain(400, 800, 1500), -14);
            check.told("the outermost SUM is wrong", y, 4, 15, 11, 2, 1, 3, 8);
        }
    }

    private static void latest(Check check) {
        check.sentence("Of the latest open(), plain()");
        PackDrawer x = Streams.of(1, 5, 0, 5);
        x.open(400, 800, 1500);
        check.told("open", x, -1, -1, 3, 1, 1, 1, 2);
        x.plain(0, 800, 1500);
        check.told("plain behind open", x, 8, 0, 1, 0, 0, 1, 1);
        check.given("plain behind open", x);
        x.open(400, 800, 2);
        check.told("open behind plain", x, 9, 2, 2, 1, 1, 1, 1);
        check.given("open behind plain", x, 5);
        x.cut(0);
        x.plain(400, 800, 1500);
        check.told("plain of none", x, 1, 0, 0, 0, 0, 1, 0);
    }

    private static void stays(Check check) {
        check.sentence("Of the latest open(), plain(): whatever becomes of THE STREAM");
        PackDrawer x = Streams.of(1, 5, 0, 5, 1);
        for (int i = 0; i < 2; i++) {
            check.due("opened", i == 0 ? x.open(400, 800, 1500) : x.plain(400, 800, 1500), -15);
            x.poke(0, 9);
            x.put(1);
            x.cut(0);
            x.bomb(1, 2, 3);
            x.plant(4);
            x.draw(4, 0, 5);
            x.plant(1);
            x.shorter(0, 0, 0);
            check.told("it stays", x, 5, 4, 3, 1, 1, 1, 2);
            check.given("it stays", x, 5);
            x.cut(0);
            for (int v : new int[] {1, 5, 0, 5, 1}) {
                x.put(v);
            }
        }
    }
}
