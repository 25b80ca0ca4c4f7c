/** Counts and prints the answers that are not as due, each with the sentence of the document that asks for it. */
final class Check {
    private static final int MOST_PRINTED = 40;

    private final String name;
    private String sentence = "";
    private int sentences;
    private long asked;
    private int wrong;

    Check(String name) {
        this.name = name;
    }

    /** The document's words that the answers behind this are about. */
    void sentence(String words) {
        sentence = " [" + words + "]";
        sentences++;
    }

    void due(String call, long got, long want) {
        asked++;
        if (got != want) {
            wrong++;
            if (wrong <= MOST_PRINTED) {
                System.out.println(name + sentence + ": " + call + " answered " + got + ", due is " + want);
            }
        }
    }

    void holds(String what, boolean does) {
        due(what, does ? 1 : 0, 1);
    }

    void bytes(String what, PackDrawer x, int... want) {
        due(what + " length()", x.length(), want.length);
        for (int i = 0; i < want.length; i++) {
            due(what + " at(" + i + ")", x.at(i), want[i]);
        }
        due(what + " at(" + want.length + ")", x.at(want.length), PackDrawer.NONE);
    }

    /** What told() tells: kind, place, steps, held, output, depth, items. */
    void told(String what, PackDrawer x, int... want) {
        for (int i = 0; i < want.length; i++) {
            due(what + " told(" + i + ")", x.told(i), want[i]);
        }
    }

    void given(String what, PackDrawer x, int... want) {
        due(what + " told(4)", x.told(4), want.length);
        for (int i = 0; i < want.length; i++) {
            due(what + " given(" + i + ")", x.given(i), want[i]);
        }
        due(what + " given(" + want.length + ")", x.given(want.length), PackDrawer.NONE);
    }

    void nothingOpened(String what, PackDrawer x) {
        told(what, x, -1, -1, 0, 0, 0, 0, 0);
        given(what, x);
    }

    void end() {
        System.out.println(name + ": " + asked + " answers" + (sentences == 0 ? "" : " to " + sentences + " sentences")
            + ", " + wrong + " not as due");
        if (wrong != 0) {
            System.exit(1);
        }
    }
}
