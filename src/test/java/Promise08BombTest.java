/** Promise 8: bomb. */
final class Promise08BombTest {
    public static void main(String[] args) {
        Check check = new Check("Promise08BombTest");
        noLevels(check);
        levels(check);
        fiveBytesMore(check);
        leastAndMostTimes(check);
        sums(check);
        wrongNumbers(check);
        becomes(check);
        check.end();
    }

    private static void noLevels(Check check) {
        check.sentence("of none RAW of one byte b, END and its SUM");
        PackDrawer x = new PackDrawer();
        check.due("bomb(0, 2, 5)", x.bomb(0, 2, 5), 4);
        check.bytes("bomb(0, 2, 5)", x, 1, 5, 0, 5);
        check.due("bomb(0, 65, 0)", x.bomb(0, 65, 0), 4);
        check.bytes("bomb(0, 65, 0)", x, 1, 0, 0, 0);
        check.due("bomb(0, 2, 255)", x.bomb(0, 2, 255), 4);
        check.bytes("bomb(0, 2, 255)", x, 1, 255, 0, 255);
    }

    private static void levels(Check check) {
        check.sentence("Of more: AGAIN times, INNER (t 192) with the BOMB of k - 1 levels, END, SUM");
        PackDrawer x = new PackDrawer();
        check.due("bomb(1, 2, 5)", x.bomb(1, 2, 5), 9);
        check.bytes("bomb(1, 2, 5)", x, 128, 192, 4, 1, 5, 0, 5, 0, 10);
        check.due("bomb(2, 3, 100)", x.bomb(2, 3, 100), 14);
        check.bytes("bomb(2, 3, 100)", x, 129, 192, 9, 129, 192, 4, 1, 100, 0, 100, 0, 44, 0, 132);
        check.due("bomb(12, 2, 0)", x.bomb(12, 2, 0), 64);
        for (int k = 0; k < 12; k++) {
            check.due("AGAIN of level " + (12 - k), x.at(3 * k), 128);
            check.due("INNER of level " + (12 - k), x.at(3 * k + 1), 192);
            check.due("n of level " + (12 - k), x.at(3 * k + 2), 59 - 5 * k);
        }
    }

    private static void fiveBytesMore(Check check) {
        check.sentence("One level more has 5 bytes more");
        PackDrawer x = new PackDrawer();
        for (int levels = 0; levels <= 12; levels++) {
            check.due("bomb(" + levels + ", 2, 255)", x.bomb(levels, 2, 255), 4 + 5 * levels);
            check.due("length() of it", x.length(), 4 + 5 * levels);
            check.due("it is opened: the sixth level is the seventh pack deep", x.open(400, 800, 1500),
                levels <= 5 ? 1 << levels : -16);
        }
    }

    private static void leastAndMostTimes(Check check) {
        check.sentence("by times (2 to 65)");
        PackDrawer x = new PackDrawer();
        check.due("bomb(1, 2, 1)", x.bomb(1, 2, 1), 9);
        check.due("AGAIN of 2 times", x.at(0), 128);
        check.due("it gives", x.open(400, 800, 1500), 2);
        check.due("bomb(1, 65, 1)", x.bomb(1, 65, 1), 9);
        check.due("AGAIN of 65 times", x.at(0), 191);
        check.due("it gives", x.open(400, 800, 1500), 65);
        check.due("bomb(2, 20, 1)", x.bomb(2, 20, 1), 14);
        check.due("it gives as much as may be", x.open(400, 800, 1500), 400);
        check.due("bomb(2, 21, 1)", x.bomb(2, 21, 1), 14);
        check.due("it gives too much", x.open(400, 800, 1500), -18);
    }

    private static void sums(Check check) {
        check.sentence("SUMS of what is given, without bounds");
        PackDrawer x = new PackDrawer();
        x.bomb(2, 65, 200);
        check.bytes("bomb(2, 65, 200)", x, 191, 192, 9, 191, 192, 4, 1, 200, 0, 200, 0, 200, 0, 200);
        x.bomb(12, 65, 255);
        for (int level = 0; level <= 12; level++) {
            int power = java.math.BigInteger.valueOf(65).pow(level).mod(java.math.BigInteger.valueOf(256)).intValue();
            check.due("END of level " + level, x.at(38 + 2 * level), 0);
            check.due("SUM of level " + level, x.at(39 + 2 * level), power * 255 % 256);
        }
        x.bomb(12, 2, 255);
        int[] halves = {255, 254, 252, 248, 240, 224, 192, 128, 0, 0, 0, 0, 0};
        for (int level = 0; level <= 12; level++) {
            check.due("SUM of level " + level + ", twice each", x.at(39 + 2 * level), halves[level]);
        }
    }

    private static void wrongNumbers(Check check) {
        check.sentence("BAD: levels (0 to 12), times (2 to 65), b (0 .. 255)");
        PackDrawer x = Streams.of(8);
        int[][] wrong = {{-1, 2, 0}, {13, 2, 0}, {0, 1, 0}, {0, 66, 0}, {0, 2, -1}, {0, 2, 256}, {12, 65, 256},
            {12, 66, 255}, {13, 65, 255}, {1, 0, 0}, {1, -2, 0}, {Integer.MAX_VALUE, 2, 0}, {Integer.MIN_VALUE, 2, 0},
            {1, Integer.MIN_VALUE, 0}, {1, Integer.MAX_VALUE, 0}, {1, 2, Integer.MIN_VALUE}, {1, 2, Integer.MAX_VALUE}};
        for (int[] w : wrong) {
            check.due("bomb(" + w[0] + ", " + w[1] + ", " + w[2] + ")", x.bomb(w[0], w[1], w[2]), PackDrawer.BAD);
            check.bytes("behind BAD", x, 8);
        }
    }

    private static void becomes(Check check) {
        check.sentence("THE STREAM becomes a BOMB: its length");
        PackDrawer x = Streams.of(Streams.fullOne());
        x.open(400, 800, 1500);
        check.due("bomb(0, 2, 3) of a full one", x.bomb(0, 2, 3), 4);
        check.bytes("bomb(0, 2, 3) of a full one", x, 1, 3, 0, 3);
        check.told("what was opened stays", x, -1, -1, 157, 155, 155, 1, 2);
    }
}
