import java.util.Arrays;

/** Promise 14: shorter. */
final class ShorterTest {
    public static void main(String[] args) {
        Check check = new Check("ShorterTest");
        one(check, new int[] {400, 800, 1500}, 0, new int[] {});
        one(check, new int[] {400, 800, 1500}, 0, new int[] {1, 9, 0, 9}, 1, 9, 0, 9);
        one(check, new int[] {400, 800, 1500}, 1, new int[] {128, 1, 0, 0, 0}, 1, 0, 0, 0);
        // The kind alone counts, not the place.
        one(check, new int[] {400, 800, 1500}, 3, new int[] {5, 5, 5});
        one(check, new int[] {0, 800, 1500}, 4, new int[] {1, 9, 1, 8, 0, 17}, 1, 17);
        one(check, new int[] {0, 0, 0}, 3, new int[] {1, 9, 0, 9}, 9);
        int[] full = new int[160];
        Arrays.fill(full, 63);
        full[159] = 9;
        one(check, new int[] {0, 800, 1500}, 96, full, Arrays.copyOfRange(full, 96, 160));
        toldStays(check);
        wrongNumbers(check);
        check.end();
    }

    private static void one(Check check, int[] bounds, int went, int[] before, int... behind) {
        PackDrawer x = Check.of(before);
        check.due("shorter", x.shorter(bounds[0], bounds[1], bounds[2]), went);
        check.bytes("shorter", x, behind);
        check.told("shorter tells nothing", x, -1, -1, 0, 0, 0, 0, 0);
    }

    private static void toldStays(Check check) {
        PackDrawer x = Check.of(1, 9, 0, 9);
        x.plain(400, 800, 2);
        x.cut(3);
        check.due("shorter behind plain", x.shorter(400, 800, 1500), 3);
        check.told("shorter behind plain", x, 9, 2, 2, 1, 1, 1, 1);
        check.given("shorter behind plain", x, 9);
    }

    private static void wrongNumbers(Check check) {
        PackDrawer x = Check.of(5, 5, 5);
        check.due("shorter(-1, 0, 0)", x.shorter(-1, 0, 0), PackDrawer.BAD);
        check.due("shorter(401, 0, 0)", x.shorter(401, 0, 0), PackDrawer.BAD);
        check.due("shorter(0, -1, 0)", x.shorter(0, -1, 0), PackDrawer.BAD);
        check.due("shorter(0, 801, 0)", x.shorter(0, 801, 0), PackDrawer.BAD);
        check.due("shorter(0, 0, -1)", x.shorter(0, 0, -1), PackDrawer.BAD);
        check.due("shorter(0, 0, 1501)", x.shorter(0, 0, 1501), PackDrawer.BAD);
        check.bytes("behind BAD", x, 5, 5, 5);
    }
}
