import java.util.Arrays;

/** What promises 10 and 11 ask alike, sentence by sentence, of the reader that this is made with. */
final class Openings {
    /** open() or plain(). */
    interface Reader {
        int read(PackDrawer x, int output, int held, int steps);
    }

    private static final int[] GREATEST = {400, 800, 1500};

    private final Check check;
    private final Reader reader;

    Openings(Check check, Reader reader) {
        this.check = check;
        this.reader = reader;
    }

    void all() {
        new OpeningItems(this).all();
        new OpeningFaults(this).all();
        new OpeningBounds(this).all();
        wrongBounds();
        greatestAnswers();
        streamStays();
    }

    void sentence(String words) {
        check.sentence(words);
    }

    int read(PackDrawer x, int... bounds) {
        return reader.read(x, bounds[0], bounds[1], bounds[2]);
    }

    void due(String call, int got, int want) {
        check.due(call, got, want);
    }

    /** told: place, steps, held at most, bytes of the outermost, packs deep, items. */
    void faultUnder(int kind, int[] stream, int[] bounds, int[] told, int... given) {
        opened(-10 - kind, stream, bounds, Streams.joined(Streams.row(kind), told), given);
    }

    void fault(int kind, int[] stream, int[] told, int... given) {
        faultUnder(kind, stream, GREATEST, told, given);
    }

    /** told: steps, held at most, bytes of the outermost, packs deep, items. */
    void soundUnder(int[] stream, int[] bounds, int[] told, int... given) {
        opened(given.length, stream, bounds, Streams.joined(Streams.row(-1, -1), told), given);
    }

    void sound(int[] stream, int[] told, int... given) {
        soundUnder(stream, GREATEST, told, given);
    }

    private void opened(int answer, int[] stream, int[] bounds, int[] told, int... given) {
        String what = Arrays.toString(stream) + " under " + Arrays.toString(bounds);
        PackDrawer x = Streams.of(stream);
        check.due(what, read(x, bounds), answer);
        check.told(what, x, told);
        check.given(what, x, given);
        check.bytes(what, x, stream);
    }

    private void wrongBounds() {
        sentence("bounds (OUTPUT 0 .. 400, HELD 0 .. 800, STEPS 0 .. 1500); BAD; then nothing changes");
        PackDrawer x = Streams.of(1, 5, 0, 5);
        for (int[] bounds : Streams.wrongBounds()) {
            check.due(Arrays.toString(bounds), read(x, bounds), PackDrawer.BAD);
            check.nothingOpened("behind BAD", x);
        }
        check.due("the greatest bounds", read(x, GREATEST), 1);
        for (int[] bounds : Streams.wrongBounds()) {
            check.due(Arrays.toString(bounds), read(x, bounds), PackDrawer.BAD);
            check.told("behind BAD", x, -1, -1, 3, 1, 1, 1, 2);
            check.given("behind BAD", x, 5);
        }
        check.bytes("behind BAD", x, 1, 5, 0, 5);
        check.due("the least bounds", read(x, 0, 0, 0), -19);
        check.due("the least bounds of none", read(new PackDrawer(), 0, 0, 0), -11);
    }

    private void greatestAnswers() {
        sentence("how many bytes are given: from none to as many as OUTPUT may be");
        check.due("none", read(Streams.of(0, 0), GREATEST), 0);
        check.due("400", read(Streams.of(Streams.fourHundred()), GREATEST), 400);
        check.due("of a full one", read(Streams.of(Streams.fullOne()), GREATEST), 155);
    }

    private void streamStays() {
        sentence("THE STREAM is opened: again and again, and it stays");
        PackDrawer x = Streams.of(1, 5, 192, 4, 1, 6, 0, 6, 0, 11);
        for (int i = 0; i < 3; i++) {
            check.due("opened", read(x, GREATEST), 2);
            check.told("opened", x, -1, -1, 8, 3, 2, 2, 5);
            check.given("opened", x, 5, 6);
            check.due("refused", read(x, 1, 800, 1500), -18);
            check.told("refused", x, 8, 2, 6, 2, 1, 2, 4);
            check.given("refused", x, 5);
        }
        check.bytes("it stays", x, 1, 5, 192, 4, 1, 6, 0, 6, 0, 11);
    }
}
