/** Promise 9: plant. */
final class PlantTest {
    public static void main(String[] args) {
        Check check = new Check("PlantTest");
        planted(check);
        nothingToPlantIn(check);
        full(check);
        noFaultBehind(check);
        wrongNumbers(check);
        check.end();
    }

    private static void one(Check check, int what, int answer, int[] before, int... behind) {
        PackDrawer x = Check.of(before);
        check.due("plant(" + what + ")", x.plant(what), answer);
        check.bytes("plant(" + what + ")", x, behind);
        check.told("plant(" + what + ") tells nothing", x, -1, -1, 0, 0, 0, 0, 0);
    }

    private static void planted(Check check) {
        one(check, 1, 1, new int[] {1, 9, 0, 9}, 1, 9, 0);
        one(check, 1, 1, new int[] {0, 0}, 0);
        one(check, 2, 2, new int[] {128, 192, 4, 1, 5, 0, 5, 0, 10}, 128, 192, 5, 1, 5, 0, 5, 0, 10);
        one(check, 2, 2, new int[] {192, 6, 254, 2, 0, 0, 0, 0, 0, 0}, 192, 7, 254, 2, 0, 0, 0, 0, 0, 0);
        one(check, 3, 3, new int[] {1, 7, 64, 0, 0, 21}, 1, 7, 64, 255, 0, 21);
        one(check, 3, 3, new int[] {192, 6, 1, 0, 127, 0, 0, 0, 64, 0, 0, 0},
            192, 6, 1, 0, 127, 255, 0, 0, 64, 0, 0, 0);
        one(check, 4, 4, new int[] {1, 9, 0, 9}, 1, 9, 0, 8);
        one(check, 5, 5, new int[] {1, 9, 0, 9}, 1, 9, 0, 9, 7);
        one(check, 7, 7, new int[] {128, 1, 5, 0, 10}, 128, 0, 5, 0, 10);
        one(check, 7, 7, new int[] {1, 0, 128, 129, 1, 0, 0, 0}, 1, 0, 128, 0, 1, 0, 0, 0);
    }

    private static void nothingToPlantIn(Check check) {
        // Bytes of RAW and WIDE that look like items are none.
        int[] lookalikes = {2, 192, 64, 255, 0, 3, 128, 64, 192, 0, 128};
        for (int what : new int[] {2, 3, 7}) {
            one(check, what, PackDrawer.NO, lookalikes, lookalikes);
            one(check, what, PackDrawer.NO, new int[] {0, 0}, 0, 0);
        }
        for (int what : new int[] {1, 2, 3, 4, 5, 7}) {
            one(check, what, PackDrawer.NO, new int[] {}, new int[] {});
            one(check, what, PackDrawer.NO, new int[] {1, 9, 0, 8}, 1, 9, 0, 8);
        }
        PackDrawer x = new PackDrawer();
        x.bomb(4, 5, 1);
        check.due("plant(4) in a bomb beyond the greatest bounds", x.plant(4), PackDrawer.NO);
        check.due("length() of it", x.length(), 24);
    }

    private static void full(Check check) {
        PackDrawer x = Check.of(255, 0, 155);
        for (int i = 0; i < 157; i++) {
            x.put(0);
        }
        check.due("a full one is sound", x.open(400, 800, 1500), 155);
        check.due("plant(5) in a full one", x.plant(5), PackDrawer.FULL);
        check.due("plant(4) in a full one", x.plant(4), 4);
        check.due("plant(5) in a full one with a fault", x.plant(5), PackDrawer.FULL);
        check.due("length() of it", x.length(), 160);
    }

    private static void noFaultBehind(Check check) {
        one(check, 3, 0, new int[] {191, 4, 1, 1, 1, 1, 64, 0, 0, 6}, 191, 4, 1, 1, 1, 1, 64, 255, 0, 6);
    }

    private static void wrongNumbers(Check check) {
        for (int what : new int[] {0, 6, 8, -1, Integer.MIN_VALUE, Integer.MAX_VALUE}) {
            one(check, what, PackDrawer.BAD, new int[] {1, 9, 0, 9}, 1, 9, 0, 9);
        }
    }
}
