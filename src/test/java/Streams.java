import java.util.Arrays;

/** Streams that the tests need, and objects that hold them. */
final class Streams {
    private Streams() {
    }

    static PackDrawer of(int... bytes) {
        PackDrawer x = new PackDrawer();
        for (int v : bytes) {
            x.put(v);
        }
        return x;
    }

    static int[] row(int... values) {
        return values;
    }

    static int[] joined(int[]... parts) {
        int[] all = new int[0];
        for (int[] part : parts) {
            int from = all.length;
            all = Arrays.copyOf(all, from + part.length);
            System.arraycopy(part, 0, all, from, part.length);
        }
        return all;
    }

    static int[] times(int count, int... part) {
        int[] all = new int[count * part.length];
        for (int i = 0; i < all.length; i++) {
            all[i] = part[i % part.length];
        }
        return all;
    }

    /** A pack with an INNER around it. */
    static int[] inner(int... pack) {
        return joined(row(192, pack.length), pack);
    }

    /** A pack of these items, END and that sum. */
    static int[] pack(int[] items, int sum) {
        return joined(items, row(0, sum));
    }

    /** A pack with so many INNERS around it, each in a pack that gives no more than that. */
    static int[] nested(int inners, int[] pack, int sum) {
        int[] made = pack;
        for (int i = 0; i < inners; i++) {
            made = pack(inner(made), sum);
        }
        return made;
    }

    /** As many bytes as there can be: a WIDE of 155 bytes 1, END and its SUM. */
    static int[] fullOne() {
        return pack(joined(row(255, 0, 155), times(155, 1)), 155);
    }

    /** A pack that gives 400 bytes 1, by four items. */
    static int[] fourHundred() {
        return row(176, 134, 1, 1, 0, 400 % 256);
    }

    /** 806 STEPS, 800 HELD at most, 400 bytes OUTPUT. */
    static int[] eightHundredHeld() {
        return nested(1, fourHundred(), 400 % 256);
    }

    /** 1500 STEPS: 247 bytes, given by each of six packs, and 18 items, 8 of them in the innermost pack. */
    static int[] fifteenHundredSteps() {
        int[] items = row(166, 6, 0, 0, 0, 0, 0, 0, 3, 0, 0, 0, 1, 0, 1, 0, 1, 0, 1, 0);
        return nested(5, pack(items, 0), 0);
    }

    /** Bounds of OUTPUT, HELD and STEPS, one of them too small or too large. */
    static int[][] wrongBounds() {
        return new int[][] {{-1, 0, 0}, {401, 0, 0}, {0, -1, 0}, {0, 801, 0}, {0, 0, -1}, {0, 0, 1501},
            {401, 800, 1500}, {400, 801, 1500}, {400, 800, 1501}, {Integer.MIN_VALUE, 0, 0}, {Integer.MAX_VALUE, 0, 0},
            {0, Integer.MIN_VALUE, 0}, {0, Integer.MAX_VALUE, 0}, {0, 0, Integer.MIN_VALUE}, {0, 0, Integer.MAX_VALUE}};
    }
}
