/** Promise 7: draw. */
final class Promise07DrawTest {
    private static final long[] SEEDS = {0, 1, -1, 7, Long.MIN_VALUE, Long.MAX_VALUE, 0x9E3779B97F4A7C15L,
        -0x9E3779B97F4A7C15L};

    /** The document's draws by a seed, apart from all else. */
    private static final class Picks {
        private final long seed;
        private long k;

        Picks(long seed) {
            this.seed = seed;
        }

        int pick(int n) {
            long z = seed + (k + 1) * 0x9E3779B97F4A7C15L;
            k++;
            z = (z ^ (z >>> 30)) * 0xBF58476D1CE4E5B9L;
            z = (z ^ (z >>> 27)) * 0x94D049BB133111EBL;
            z = z ^ (z >>> 31);
            return (int) Long.remainderUnsigned(z >>> 33, n);
        }
    }

    public static void main(String[] args) {
        Check check = new Check("Promise07DrawTest");
        anew(check);
        wrongNumbers(check);
        wrapped(check);
        noFault(check);
        firstItems(check);
        lessThanAHundredBytes(check);
        firstThreeDeep(check);
        bytesOfSorts(check);
        sameAsModel(check);
        check.end();
    }

    private static void anew(Check check) {
        check.sentence("THE STREAM is DRAWN anew: its length");
        PackDrawer x = Streams.of(Streams.fullOne());
        x.open(400, 800, 1500);
        for (int i = 0; i < 2; i++) {
            check.due("draw(0, 0, 5)", x.draw(0, 0, 5), 12);
            check.bytes("draw(0, 0, 5)", x, 128, 3, 181, 134, 95, 128, 3, 110, 112, 31, 0, 46);
        }
        check.told("what was opened stays", x, -1, -1, 157, 155, 155, 1, 2);
        check.due("given(154)", x.given(154), 1);
    }

    private static void wrongNumbers(Check check) {
        check.sentence("BAD: SORT (0 to 2), SIZE (1 to 5)");
        PackDrawer x = Streams.of(1, 2);
        int[][] wrong = {{-1, 1}, {3, 1}, {0, 0}, {0, 6}, {2, 0}, {2, 6}, {-1, 5}, {3, 5}, {3, 6}, {-1, 0},
            {Integer.MIN_VALUE, 1}, {Integer.MAX_VALUE, 1}, {0, Integer.MIN_VALUE}, {0, Integer.MAX_VALUE}};
        for (int[] w : wrong) {
            check.due("draw(1, " + w[0] + ", " + w[1] + ")", x.draw(1, w[0], w[1]), PackDrawer.BAD);
            check.bytes("behind BAD", x, 1, 2);
        }
        for (int sort = 0; sort <= 2; sort++) {
            for (int size = 1; size <= 5; size++) {
                check.holds("draw(1, " + sort + ", " + size + ")", x.draw(1, sort, size) >= 4);
            }
        }
    }

    private static void wrapped(Check check) {
        check.sentence("all wrapped");
        Model model = new Model();
        PackDrawer x = new PackDrawer();
        for (long seed : SEEDS) {
            for (int sort = 0; sort <= 2; sort++) {
                check.due("draw(" + seed + ")", x.draw(seed, sort, 5), model.draw(seed, sort, 5));
                check.bytes("draw(" + seed + ")", x, bytesOf(model));
            }
        }
    }

    private static void noFault(Check check) {
        check.sentence("END and its SUM (so that there is no FAULT)");
        PackDrawer x = new PackDrawer();
        for (int seed = 0; seed < 20000; seed++) {
            x.draw(seed, seed % 3, 1 + seed % 5);
            check.holds("a sound stream by " + seed, x.open(400, 800, 1500) > 0);
        }
    }

    /** The first item of a stream can't be a COPY: its pack gave no byte. */
    private static void firstItems(Check check) {
        check.sentence("COPY, if its PACK gave some byte; else, and where it can't be: RAW");
        PackDrawer x = new PackDrawer();
        for (int seed = 0; seed < 4000; seed++) {
            Picks picks = new Picks(seed);
            x.draw(seed, 1, 5);
            picks.pick(5);
            int w = picks.pick(8);
            String item = "the first item by " + seed + ", w " + w + ",";
            if (w == 5) {
                check.due(item + " AGAIN", x.at(0), 128 + picks.pick(4));
                check.due(item + " its RAW", x.at(1), 1 + picks.pick(5));
                check.due(item + " its first byte", x.at(2), 97 + picks.pick(3));
            } else if (w == 6) {
                check.due(item + " INNER", x.at(0), 192);
            } else if (w == 7) {
                check.due(item + " WIDE", x.at(0), 255);
                check.due(item + " its higher byte", x.at(1), 0);
                check.due(item + " its lower byte", x.at(2), 1 + picks.pick(5));
                check.due(item + " its first byte", x.at(3), 97 + picks.pick(3));
            } else {
                check.due(item + " RAW", x.at(0), 1 + picks.pick(5));
                check.due(item + " its first byte", x.at(1), 97 + picks.pick(3));
            }
        }
        check.sentence("COPY: PICK 6 and 2 bytes, the DISTANCE less 1: PICK of how many it gave");
        copyBehindRaw(check);
    }

    private static void copyBehindRaw(Check check) {
        PackDrawer x = new PackDrawer();
        int seen = 0;
        for (int seed = 0; seed < 20000; seed++) {
            Picks picks = new Picks(seed);
            int c = 1 + picks.pick(5);
            int first = picks.pick(8);
            int count = 1 + picks.pick(5);
            picks.pick(256);
            int second = picks.pick(8);
            if (c > 1 && first <= 4 && (second == 3 || second == 4)) {
                seen++;
                x.draw(seed, 2, 5);
                check.due("COPY by " + seed, x.at(1 + count), 64 + picks.pick(6));
                check.due("its DISTANCE by " + seed, x.at(2 + count), picks.pick(count));
            }
        }
        check.holds("COPIES were drawn", seen > 100);
    }

    /** By each of these seeds THE STREAM has just 99 or 100 bytes where one more item could come. */
    private static void lessThanAHundredBytes(Check check) {
        check.sentence("each only while THE STREAM has less than 100 bytes");
        PackDrawer x = new PackDrawer();
        check.due("99 bytes in the outermost, sort 1", x.draw(10832, 1, 5), 103);
        check.due("99 bytes in the outermost, sort 2", x.draw(3042, 2, 5), 105);
        check.due("99 bytes in an INNER, sort 0", x.draw(992, 0, 5), 110);
        check.due("99 bytes in an INNER, sort 2", x.draw(6118, 2, 5), 105);
        check.due("100 bytes in the outermost, sort 0", x.draw(1918, 0, 5), 102);
        check.due("100 bytes in the outermost, sort 2", x.draw(11122, 2, 5), 102);
        check.due("100 bytes in an INNER, sort 1", x.draw(11054, 1, 5), 104);
        check.due("100 bytes in an INNER, sort 2", x.draw(10592, 2, 5), 108);
        // Four packs are open, a WIDE of five bytes begins at 99: there can't be more than 115.
        check.due("the longest one, sort 0", x.draw(768447, 0, 5), 115);
        check.due("it is sound", x.open(400, 800, 1500) > 0 ? 1 : 0, 1);
        check.due("the longest one, sort 2", x.draw(832178, 2, 5), 115);
        check.due("it is sound", x.open(400, 800, 1500) > 0 ? 1 : 0, 1);
    }

    private static void firstThreeDeep(Check check) {
        check.sentence("6: INNER (t 192), if its PACK is one of the first three deep");
        PackDrawer x = new PackDrawer();
        int deepest = 0;
        for (int seed = 0; seed < 3000; seed++) {
            x.draw(seed, 0, 5);
            x.open(400, 800, 1500);
            deepest = Math.max(deepest, x.told(5));
        }
        check.due("packs deep at most", deepest, 4);
        // By these a fourth pack draws w 6, so there it is RAW.
        check.due("draw(153, 0, 5)", x.draw(153, 0, 5), 67);
        check.due("draw(194, 1, 5)", x.draw(194, 1, 5), 105);
        check.due("draw(121, 2, 5)", x.draw(121, 2, 5), 73);
        x.open(400, 800, 1500);
        check.due("packs deep by 121", x.told(5), 4);
    }

    private static void bytesOfSorts(Check check) {
        check.sentence("SORT 0 each PICK 256; SORT 1 each 97 + PICK 3; SORT 2 one PICK 256 for all of it");
        PackDrawer x = new PackDrawer();
        for (int seed = 0; seed < 2000; seed++) {
            for (int sort = 0; sort <= 2; sort++) {
                Picks picks = new Picks(seed);
                picks.pick(1);
                int w = picks.pick(8);
                if (w == 5 || w == 6) {
                    continue;
                }
                x.draw(seed, sort, 1);
                int count = 1 + picks.pick(5);
                int from = w == 7 ? 3 : 1;
                int same = sort == 2 ? picks.pick(256) : 0;
                int sum = 0;
                for (int i = 0; i < count; i++) {
                    int v = sort == 0 ? picks.pick(256) : sort == 1 ? 97 + picks.pick(3) : same;
                    check.due("byte " + i + " of sort " + sort + " by " + seed, x.at(from + i), v);
                    sum += v;
                }
                check.due("END by " + seed, x.at(from + count), 0);
                check.due("SUM by " + seed, x.at(from + count + 1), sum % 256);
                check.due("length by " + seed, x.length(), from + count + 2);
            }
        }
    }

    private static void sameAsModel(Check check) {
        check.sentence("THE STREAM is DRAWN of a SORT and a SIZE");
        Model model = new Model();
        PackDrawer x = new PackDrawer();
        for (int i = 0; i < 6000; i++) {
            long seed = i % 3 == 0 ? i : i * 0x5DEECE66DL * 0x9E3779B97F4A7C15L;
            int sort = i % 3;
            int size = 1 + i % 5;
            String call = "draw(" + seed + ", " + sort + ", " + size + ")";
            check.due(call, x.draw(seed, sort, size), model.draw(seed, sort, size));
            check.bytes(call, x, bytesOf(model));
        }
    }

    private static int[] bytesOf(Model model) {
        return model.stream.stream().mapToInt(v -> v).toArray();
    }
}
