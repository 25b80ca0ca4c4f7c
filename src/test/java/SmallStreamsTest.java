/** Promises 10 to 14: every stream of up to five bytes of a few values, by the program and by the model. */
final class SmallStreamsTest {
    private static final int MOST_BYTES = 5;
    private static final int[] VALUES = {0, 1, 2, 3, 64, 128, 192, 254, 255};
    private static final int[][] BOUNDS = {{400, 800, 1500}, {1, 800, 1500}, {400, 1, 1500}, {0, 2, 4}, {400, 800, 3}};

    private final Check check = new Check("SmallStreamsTest");
    private final PackDrawer x = new PackDrawer();
    private final Model model = new Model();

    public static void main(String[] args) {
        SmallStreamsTest test = new SmallStreamsTest();
        test.allFrom(0);
        test.check.end();
    }

    private void allFrom(int length) {
        for (int[] bounds : BOUNDS) {
            opened(bounds);
        }
        if (length <= 3) {
            shorter(length);
        }
        if (length < MOST_BYTES) {
            for (int v : VALUES) {
                x.put(v);
                model.put(v);
                allFrom(length + 1);
                x.cut(length);
                model.cut(length);
            }
        }
    }

    private void opened(int[] bounds) {
        int want = model.open(bounds[0], bounds[1], bounds[2]);
        String what = model.stream + " under " + bounds[0] + ", " + bounds[1] + ", " + bounds[2];
        check.due("open of " + what, x.open(bounds[0], bounds[1], bounds[2]), want);
        told("open of " + what);
        check.due("plain of " + what, x.plain(bounds[0], bounds[1], bounds[2]), want);
        told("plain of " + what);
    }

    private void told(String what) {
        for (int i = 0; i <= 6; i++) {
            check.due(what + " told(" + i + ")", x.told(i), model.told(i));
        }
        for (int i = 0; i <= model.told(4); i++) {
            check.due(what + " given(" + i + ")", x.given(i), model.given(i));
        }
    }

    private void shorter(int length) {
        int[] before = new int[length];
        for (int i = 0; i < length; i++) {
            before[i] = model.at(i);
        }
        for (int[] bounds : BOUNDS) {
            String what = "shorter of " + model.stream;
            check.due(what, x.shorter(bounds[0], bounds[1], bounds[2]), model.shorter(bounds[0], bounds[1], bounds[2]));
            check.bytes(what, x, model.stream.stream().mapToInt(v -> v).toArray());
            x.cut(0);
            model.cut(0);
            for (int v : before) {
                x.put(v);
                model.put(v);
            }
        }
    }
}
