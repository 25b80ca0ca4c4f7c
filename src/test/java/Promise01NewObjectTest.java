/** Promise 1: a new object. */
final class Promise01NewObjectTest {
    public static void main(String[] args) {
        Check check = new Check("Promise01NewObjectTest");
        empty(check);
        nothingOpened(check);
        nothingShared(check);
        check.end();
    }

    private static void empty(Check check) {
        check.sentence("THE STREAM is empty");
        PackDrawer x = new PackDrawer();
        check.bytes("new", x);
        check.due("poke(0, 0)", x.poke(0, 0), PackDrawer.BAD);
        check.due("cut(1)", x.cut(1), PackDrawer.BAD);
        check.due("cut(0)", x.cut(0), 0);
        check.due("plant(1)", x.plant(1), PackDrawer.NO);
        check.due("shorter(400, 800, 1500)", x.shorter(400, 800, 1500), 0);
        check.due("open(400, 800, 1500)", x.open(400, 800, 1500), -11);
        check.due("the PLACE of its FAULT", x.told(1), 0);
    }

    private static void nothingOpened(Check check) {
        check.sentence("nothing was opened");
        check.nothingOpened("new", new PackDrawer());
    }

    private static void nothingShared(Check check) {
        check.sentence("THE STREAM is empty; nothing was opened: also when another object is in use");
        PackDrawer x = Streams.of(1, 5, 0, 5);
        x.open(400, 800, 1500);
        PackDrawer y = new PackDrawer();
        check.bytes("the second", y);
        check.nothingOpened("the second", y);
        y.bomb(2, 2, 2);
        y.plain(0, 0, 0);
        y.shorter(400, 800, 1500);
        check.bytes("the first", x, 1, 5, 0, 5);
        check.told("the first", x, -1, -1, 3, 1, 1, 1, 2);
        check.given("the first", x, 5);
    }
}
