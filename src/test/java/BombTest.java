/** Promise 8: bomb. */
final class BombTest {
    public static void main(String[] args) {
        Check check = new Check("BombTest");
        PackDrawer x = new PackDrawer();
        check.due("bomb(0, 2, 5)", x.bomb(0, 2, 5), 4);
        check.bytes("bomb(0, 2, 5)", x, 1, 5, 0, 5);
        check.due("bomb(1, 2, 5)", x.bomb(1, 2, 5), 9);
        check.bytes("bomb(1, 2, 5)", x, 128, 192, 4, 1, 5, 0, 5, 0, 10);
        check.due("bomb(2, 65, 200)", x.bomb(2, 65, 200), 14);
        check.bytes("bomb(2, 65, 200)", x, 191, 192, 9, 191, 192, 4, 1, 200, 0, 200, 0, 200, 0, 200);
        check.due("bomb(2, 3, 100)", x.bomb(2, 3, 100), 14);
        check.bytes("bomb(2, 3, 100)", x, 129, 192, 9, 129, 192, 4, 1, 100, 0, 100, 0, 44, 0, 132);
        for (int levels = 0; levels <= 12; levels++) {
            check.due("bomb(" + levels + ", 2, 255)", x.bomb(levels, 2, 255), 4 + 5 * levels);
            check.due("bomb(" + levels + ", 2, 255) opened", x.open(400, 800, 1500),
                levels <= 5 ? 1 << levels : -16);
        }
        check.due("bomb(0, 65, 0)", x.bomb(0, 65, 0), 4);
        wrongNumbers(check);
        check.end();
    }

    private static void wrongNumbers(Check check) {
        PackDrawer x = Check.of(8);
        int[][] wrong = {{-1, 2, 0}, {13, 2, 0}, {0, 1, 0}, {0, 66, 0}, {0, 2, -1}, {0, 2, 256},
            {Integer.MAX_VALUE, 2, 0}, {1, Integer.MIN_VALUE, 0}};
        for (int[] w : wrong) {
            check.due("bomb(" + w[0] + ", " + w[1] + ", " + w[2] + ")", x.bomb(w[0], w[1], w[2]), PackDrawer.BAD);
        }
        check.bytes("behind BAD", x, 8);
    }
}
