import java.util.Arrays;

/** Promise 14: shorter. */
final class Promise14ShorterTest {
    private static final int[] GREATEST = {400, 800, 1500};

    private final Check check = new Check("Promise14ShorterTest");

    public static void main(String[] args) {
        Promise14ShorterTest test = new Promise14ShorterTest();
        test.none();
        test.noFault();
        test.eachKind();
        test.kindAlone();
        test.underTheSameBounds();
        test.atThatPlace();
        test.once();
        test.full();
        test.toldStays();
        test.wrongBounds();
        test.verdictStays();
        test.check.end();
    }

    private void one(int[] bounds, int[] before, int... behind) {
        PackDrawer x = Streams.of(before);
        String what = "shorter of " + Arrays.toString(before) + " under " + Arrays.toString(bounds);
        check.due(what, x.shorter(bounds[0], bounds[1], bounds[2]), before.length - behind.length);
        check.bytes(what, x, behind);
        check.nothingOpened(what, x);
    }

    private static int[] row(int... values) {
        return values;
    }

    private void none() {
        check.sentence("how many bytes went: of none, none");
        one(GREATEST, row());
        one(row(0, 0, 0), row());
    }

    private void noFault() {
        check.sentence("the same verdict (the KIND of its FAULT, or none): none");
        one(GREATEST, row(0, 0), 0, 0);
        one(GREATEST, row(1, 9, 0, 9), 1, 9, 0, 9);
        one(GREATEST, row(0, 0, 0), 0, 0, 0);
        one(GREATEST, row(128, 1, 0, 0, 0), 1, 0, 0, 0);
        one(GREATEST, row(1, 0, 1, 0, 0, 0), 1, 0, 1, 0, 0, 0);
    }

    private void eachKind() {
        check.sentence("the same verdict (the KIND of its FAULT)");
        one(GREATEST, row(1, 9, 0));
        one(GREATEST, row(192, 255, 0, 0), 192, 0);
        one(GREATEST, row(64, 1, 0, 9), 64, 9);
        one(GREATEST, row(1, 9, 0, 8), 1, 9, 0, 8);
        one(GREATEST, row(128, 1, 9, 0, 8), 1, 9, 0, 8);
        one(GREATEST, row(0, 0, 7, 7), 0, 0, 7);
        one(GREATEST, row(192, 9, 192, 7, 192, 5, 192, 3, 192, 1, 192), 192, 9, 192, 7, 192, 5, 192, 3, 192, 1, 192);
        one(GREATEST, row(128, 129, 0, 0), 129, 0);
        one(row(0, 0, 0), row(1, 9, 0, 9), 9);
        one(row(0, 800, 1500), row(1, 9, 1, 8, 0, 17), 1, 17);
        one(row(400, 0, 1500), row(1, 9, 1, 8, 0, 17), 1, 17);
    }

    private void kindAlone() {
        check.sentence("the same verdict: the PLACE of the FAULT may be another one");
        one(GREATEST, row(5, 5, 5));
        PackDrawer x = Streams.of(128, 1, 9, 0, 8);
        x.open(400, 800, 1500);
        check.told("before", x, 4, 4);
        check.due("shorter", x.shorter(400, 800, 1500), 1);
        x.open(400, 800, 1500);
        check.told("behind", x, 4, 3);
    }

    private void underTheSameBounds() {
        check.sentence("under the same bounds");
        int[] stream = {2, 8, 8, 0, 16};
        one(GREATEST, stream, 2, 8, 8, 0, 16);
        one(row(2, 2, 4), stream, 2, 8, 8, 0, 16);
        one(row(1, 800, 1500), stream, 2, 0, 16);
        one(row(400, 1, 1500), stream, 2, 0, 16);
        one(row(400, 800, 3), stream, 2, 8, 0, 16);
        one(row(400, 800, 0), stream, 16);
    }

    private void atThatPlace() {
        check.sentence("(then the next one stands at that PLACE, and is looked at there)");
        one(row(400, 800, 0), row(1, 2, 3, 4, 5), 5);
        one(GREATEST, row(128, 129, 130, 131, 1, 0, 0, 0), 1, 0, 0, 0);
        one(GREATEST, row(1, 0, 128, 129, 64, 0, 0, 0), 1, 0, 64, 0, 0, 0);
    }

    private void once() {
        check.sentence("to the end, once");
        PackDrawer x = new PackDrawer();
        int again = 0;
        for (int seed = 0; seed < 300; seed++) {
            Model model = new Model();
            x.draw(seed, seed % 3, 5);
            model.draw(seed, seed % 3, 5);
            check.due("plant", x.plant(3), model.plant(3));
            check.due("shorter", x.shorter(400, 800, 1500), model.shorter(400, 800, 1500));
            check.bytes("by " + seed, x, model.stream.stream().mapToInt(v -> v).toArray());
            int more = x.shorter(400, 800, 1500);
            check.due("shorter again", more, model.shorter(400, 800, 1500));
            again += more;
        }
        check.holds("a second time makes some shorter that the first time left", again > 0);
    }

    private void full() {
        check.sentence("from PLACE 0 on, to the end: of a full one");
        int[] full = Streams.times(160, 63);
        full[159] = 9;
        one(row(0, 800, 1500), full, Arrays.copyOfRange(full, 96, 160));
        one(GREATEST, Streams.fullOne(), Streams.fullOne());
        one(GREATEST, Streams.times(160, 128));
        one(row(0, 0, 0), Streams.times(160, 7), 7);
    }

    private void toldStays() {
        check.sentence("(The latest open() stays what is told.)");
        PackDrawer x = Streams.of(1, 9, 0, 9);
        x.plain(400, 800, 2);
        x.cut(3);
        check.due("shorter behind plain", x.shorter(400, 800, 1500), 3);
        check.told("shorter behind plain", x, 9, 2, 2, 1, 1, 1, 1);
        check.given("shorter behind plain", x, 9);
        PackDrawer y = Streams.of(128, 1, 0, 0, 0);
        y.open(400, 800, 1500);
        check.due("shorter behind open", y.shorter(400, 800, 1500), 1);
        check.told("shorter behind open", y, -1, -1, 5, 2, 2, 1, 3);
        check.given("shorter behind open", y, 0, 0);
    }

    private void wrongBounds() {
        check.sentence("bounds as open() has them; BAD");
        PackDrawer x = Streams.of(5, 5, 5);
        for (int[] bounds : Streams.wrongBounds()) {
            check.due("shorter" + Arrays.toString(bounds), x.shorter(bounds[0], bounds[1], bounds[2]), PackDrawer.BAD);
            check.bytes("behind BAD", x, 5, 5, 5);
        }
        check.due("shorter(400, 800, 1500)", x.shorter(400, 800, 1500), 3);
    }

    private void verdictStays() {
        check.sentence("each byte is left out if THE STREAM without it has the same verdict");
        PackDrawer x = new PackDrawer();
        for (int seed = 0; seed < 200; seed++) {
            for (int what : new int[] {1, 2, 4, 5, 7}) {
                x.draw(seed, seed % 3, 4);
                x.plant(what);
                int output = seed % 7 == 0 ? seed % 13 : 400;
                int before = x.open(output, 800, 1500);
                int length = x.length();
                int went = x.shorter(output, 800, 1500);
                check.due("length() by " + seed, x.length(), length - went);
                int behind = x.plain(output, 800, 1500);
                check.due("verdict by " + seed, Math.min(behind, -1), Math.min(before, -1));
            }
        }
    }
}
