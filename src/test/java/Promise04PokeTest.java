/** Promise 4: poke. */
final class Promise04PokeTest {
    public static void main(String[] args) {
        Check check = new Check("Promise04PokeTest");
        another(check);
        noPlace(check);
        noByte(check);
        check.end();
    }

    private static void another(Check check) {
        check.sentence("A byte becomes another one: what it was");
        PackDrawer x = Streams.of(4, 5, 6);
        check.due("poke(0, 255)", x.poke(0, 255), 4);
        check.due("poke(0, 1)", x.poke(0, 1), 255);
        check.due("poke(2, 0)", x.poke(2, 0), 6);
        check.due("poke(2, 0) again", x.poke(2, 0), 0);
        check.bytes("poke", x, 1, 5, 0);
        PackDrawer full = Streams.of(Streams.fullOne());
        check.due("poke(159, 3)", full.poke(159, 3), 155);
        check.due("at(159)", full.at(159), 3);
        check.due("at(158)", full.at(158), 0);
        check.due("open(400, 800, 1500)", full.open(400, 800, 1500), -14);
    }

    private static void noPlace(Check check) {
        check.sentence("BAD: no such PLACE");
        PackDrawer x = Streams.of(4, 5, 6);
        for (int place : new int[] {-1, 3, 159, 160, Integer.MIN_VALUE, Integer.MAX_VALUE}) {
            check.due("poke(" + place + ", 1)", x.poke(place, 1), PackDrawer.BAD);
            check.bytes("behind poke(" + place + ", 1)", x, 4, 5, 6);
        }
        check.due("poke(0, 0) of none", new PackDrawer().poke(0, 0), PackDrawer.BAD);
        check.due("poke(160, 0) of a full one", Streams.of(Streams.fullOne()).poke(160, 0), PackDrawer.BAD);
    }

    private static void noByte(Check check) {
        check.sentence("BAD: no byte");
        PackDrawer x = Streams.of(4, 5, 6);
        for (int v : new int[] {-1, 256, Integer.MIN_VALUE, Integer.MAX_VALUE}) {
            check.due("poke(1, " + v + ")", x.poke(1, v), PackDrawer.BAD);
            check.due("poke(3, " + v + ")", x.poke(3, v), PackDrawer.BAD);
            check.bytes("behind poke(1, " + v + ")", x, 4, 5, 6);
        }
    }
}
