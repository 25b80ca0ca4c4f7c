/** Promise 7: draw. */
final class DrawTest {
    public static void main(String[] args) {
        Check check = new Check("DrawTest");
        PackDrawer x = new PackDrawer();
        check.due("draw(0, 0, 5)", x.draw(0, 0, 5), 12);
        check.bytes("draw(0, 0, 5)", x, 128, 3, 181, 134, 95, 128, 3, 110, 112, 31, 0, 46);
        sameAsModel(check);
        alwaysSound(check);
        wrongNumbers(check);
        check.end();
    }

    private static void sameAsModel(Check check) {
        Model model = new Model();
        for (int i = 0; i < 6000; i++) {
            long seed = i % 3 == 0 ? i : i * 0x5DEECE66DL * 0x9E3779B97F4A7C15L;
            PackDrawer x = new PackDrawer();
            String call = "draw(" + seed + ", " + i % 3 + ", " + (1 + i % 5) + ")";
            check.due(call, x.draw(seed, i % 3, 1 + i % 5), model.draw(seed, i % 3, 1 + i % 5));
            check.bytes(call, x, model.stream.stream().mapToInt(v -> v).toArray());
        }
        // By 1918 and 3036 a stream has just 100 bytes where another item could come.
        for (long seed : new long[] {Long.MIN_VALUE, -1, Long.MAX_VALUE, 1918, 3036}) {
            PackDrawer x = new PackDrawer();
            check.due("draw(" + seed + ")", x.draw(seed, 1, 5), model.draw(seed, 1, 5));
            check.bytes("draw(" + seed + ")", x, model.stream.stream().mapToInt(v -> v).toArray());
        }
    }

    private static void alwaysSound(Check check) {
        PackDrawer x = new PackDrawer();
        int longest = 0;
        int deepest = 0;
        for (int seed = 0; seed < 20000; seed++) {
            longest = Math.max(longest, x.draw(seed, seed % 3, 5));
            check.holds("a sound stream by " + seed, x.open(400, 800, 1500) >= 0);
            deepest = Math.max(deepest, x.told(5));
        }
        check.holds("streams of 100 bytes and more", longest >= 100 && longest <= 160);
        check.due("packs deep", deepest, 4);
    }

    private static void wrongNumbers(Check check) {
        PackDrawer x = Check.of(1, 2);
        check.due("sort -1", x.draw(1, -1, 1), PackDrawer.BAD);
        check.due("sort 3", x.draw(1, 3, 1), PackDrawer.BAD);
        check.due("size 0", x.draw(1, 0, 0), PackDrawer.BAD);
        check.due("size 6", x.draw(1, 0, 6), PackDrawer.BAD);
        check.due("all wrong", x.draw(1, Integer.MIN_VALUE, Integer.MAX_VALUE), PackDrawer.BAD);
        check.bytes("behind BAD", x, 1, 2);
    }
}
