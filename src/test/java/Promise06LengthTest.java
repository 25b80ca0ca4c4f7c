/** Promise 6: length. */
final class Promise06LengthTest {
    public static void main(String[] args) {
        Check check = new Check("Promise06LengthTest");
        fromNoneToFull(check);
        behindEachCall(check);
        behindRefusals(check);
        check.end();
    }

    private static void fromNoneToFull(Check check) {
        check.sentence("How many bytes THE STREAM has: 160 at most");
        PackDrawer x = new PackDrawer();
        for (int i = 0; i < 160; i++) {
            check.due("length()", x.length(), i);
            x.put(0);
        }
        check.due("length() of a full one", x.length(), 160);
    }

    private static void behindEachCall(Check check) {
        check.sentence("How many bytes THE STREAM has: behind each call that changes it");
        PackDrawer x = new PackDrawer();
        check.due("draw(0, 0, 5)", x.draw(0, 0, 5), 12);
        check.due("length() behind draw", x.length(), 12);
        check.due("plant(5)", x.plant(5), 5);
        check.due("length() behind plant(5)", x.length(), 13);
        x.cut(12);
        check.due("plant(1)", x.plant(1), 1);
        check.due("length() behind plant(1)", x.length(), 11);
        check.due("bomb(12, 2, 0)", x.bomb(12, 2, 0), 64);
        check.due("length() behind bomb", x.length(), 64);
        check.due("poke(0, 1)", x.poke(0, 1), 128);
        check.due("open(0, 0, 0)", x.open(0, 0, 0), -19);
        check.due("length() behind poke, open", x.length(), 64);
        check.due("shorter(0, 0, 0)", x.shorter(0, 0, 0), 63);
        check.due("length() behind shorter", x.length(), 1);
        check.due("cut(0)", x.cut(0), 1);
        check.due("length() behind cut", x.length(), 0);
    }

    private static void behindRefusals(Check check) {
        check.sentence("then nothing changes");
        PackDrawer x = Streams.of(1, 9, 0, 9);
        x.put(256);
        x.cut(5);
        x.poke(4, 0);
        x.draw(0, 3, 1);
        x.bomb(13, 2, 0);
        x.plant(6);
        x.plant(7);
        x.open(401, 0, 0);
        x.plain(0, 801, 0);
        x.shorter(0, 0, 1501);
        check.bytes("behind refused calls", x, 1, 9, 0, 9);
        check.nothingOpened("behind refused calls", x);
    }
}
