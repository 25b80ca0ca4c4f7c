/** Bounds: just enough and one less, which of them is met first, and at which place. */
final class OpeningBounds {
    private static final int CUT = 1;
    private static final int OUTPUT = 8;
    private static final int STEPS = 9;
    private static final int HELD = 10;

    private final Openings openings;

    OpeningBounds(Openings openings) {
        this.openings = openings;
    }

    void all() {
        stepsOfItems();
        stepsOfBytes();
        held();
        heldOfInners();
        output();
        inThisOrder();
        placeOfTheItem();
        placeOfAgain();
        placeOfInner();
        aheadOfEachByte();
        stepAheadOfAllElse();
        greatest();
    }

    private static int[] row(int... values) {
        return values;
    }

    private void stepsOfItems() {
        openings.sentence("STEPS: one for each ITEM that begins (END, and what stands behind AGAIN, too)");
        openings.faultUnder(STEPS, row(0, 0), row(0, 0, 0), row(0, 0, 0, 0, 1, 0));
        openings.soundUnder(row(0, 0), row(0, 0, 1), row(1, 0, 0, 1, 1));
        int[] items = row(128, 129, 255, 0, 0, 192, 2, 0, 0, 0, 0);
        openings.faultUnder(STEPS, items, row(0, 0, 0), row(0, 0, 0, 0, 1, 0));
        openings.faultUnder(STEPS, items, row(0, 0, 1), row(1, 1, 0, 0, 1, 1));
        openings.faultUnder(STEPS, items, row(0, 0, 2), row(2, 2, 0, 0, 1, 2));
        openings.faultUnder(STEPS, items, row(0, 0, 3), row(5, 3, 0, 0, 1, 3));
        openings.faultUnder(STEPS, items, row(0, 0, 4), row(7, 4, 0, 0, 2, 4));
        openings.faultUnder(STEPS, items, row(0, 0, 5), row(9, 5, 0, 0, 2, 5));
        openings.soundUnder(items, row(0, 0, 6), row(6, 0, 0, 2, 6));
    }

    private void stepsOfBytes() {
        openings.sentence("STEPS: one for each byte that a PACK gives (also each time again)");
        int[] again = row(128, 1, 5, 64, 0, 0, 20);
        openings.faultUnder(STEPS, again, row(400, 800, 2), row(1, 2, 0, 0, 1, 2));
        openings.faultUnder(STEPS, again, row(400, 800, 3), row(0, 3, 1, 1, 1, 2), 5);
        openings.faultUnder(STEPS, again, row(400, 800, 4), row(3, 4, 2, 2, 1, 2), 5, 5);
        openings.faultUnder(STEPS, again, row(400, 800, 5), row(3, 5, 2, 2, 1, 3), 5, 5);
        openings.faultUnder(STEPS, again, row(400, 800, 6), row(3, 6, 3, 3, 1, 3), 5, 5, 5);
        openings.faultUnder(STEPS, again, row(400, 800, 7), row(5, 7, 4, 4, 1, 3), 5, 5, 5, 5);
        openings.soundUnder(again, row(400, 800, 8), row(8, 4, 4, 1, 4), 5, 5, 5, 5);
        openings.sentence("STEPS: one for each byte that a PACK gives (when it comes from an INNER)");
        int[] inner = row(192, 4, 1, 5, 0, 5, 0, 5);
        openings.faultUnder(STEPS, inner, row(400, 800, 2), row(2, 2, 0, 0, 2, 2));
        openings.faultUnder(STEPS, inner, row(400, 800, 3), row(4, 3, 1, 0, 2, 2));
        openings.faultUnder(STEPS, inner, row(400, 800, 4), row(0, 4, 1, 0, 2, 3));
        openings.faultUnder(STEPS, inner, row(400, 800, 5), row(6, 5, 2, 1, 2, 3), 5);
        openings.soundUnder(inner, row(400, 800, 6), row(6, 2, 1, 2, 4), 5);
    }

    private void held() {
        openings.sentence("HELD: all bytes that PACKS which are open gave, together");
        openings.faultUnder(HELD, row(2, 8, 9, 0, 17), row(400, 0, 1500), row(0, 1, 0, 0, 1, 1));
        openings.faultUnder(HELD, row(2, 8, 9, 0, 17), row(400, 1, 1500), row(0, 2, 1, 1, 1, 1), 8);
        openings.soundUnder(row(2, 8, 9, 0, 17), row(400, 2, 1500), row(4, 2, 2, 1, 2), 8, 9);
        openings.soundUnder(row(0, 0), row(0, 0, 1500), row(1, 0, 0, 1, 1));
        int[] threeDeep = row(1, 1, 192, 12, 1, 2, 192, 6, 3, 3, 4, 5, 0, 12, 0, 14, 0, 15);
        openings.faultUnder(HELD, threeDeep, row(400, 4, 1500), row(8, 9, 4, 1, 3, 5), 1);
        openings.faultUnder(HELD, threeDeep, row(400, 5, 1500), row(6, 11, 5, 1, 3, 6), 1);
        openings.faultUnder(HELD, threeDeep, row(400, 7, 1500), row(6, 13, 7, 1, 3, 6), 1);
        openings.faultUnder(HELD, threeDeep, row(400, 8, 1500), row(2, 18, 8, 4, 3, 7), 1, 2, 3, 4);
        openings.soundUnder(threeDeep, row(400, 9, 1500), row(20, 9, 5, 3, 8), 1, 2, 3, 4, 5);
    }

    private void heldOfInners() {
        openings.sentence("HELD: (an INNER's until they all were given by the outer one)");
        int[] two = row(192, 4, 1, 5, 0, 5, 192, 4, 1, 6, 0, 6, 0, 11);
        openings.soundUnder(two, row(2, 3, 11), row(11, 3, 2, 2, 7), 5, 6);
        openings.faultUnder(HELD, two, row(2, 2, 11), row(6, 9, 2, 1, 2, 6), 5);
        openings.faultUnder(HELD, two, row(2, 1, 11), row(0, 4, 1, 0, 2, 3));
        int[] again = row(128, 192, 5, 2, 3, 4, 0, 7, 0, 14);
        openings.soundUnder(again, row(4, 4, 11), row(11, 4, 4, 2, 5), 3, 4, 3, 4);
        openings.faultUnder(HELD, again, row(4, 3, 11), row(1, 7, 3, 1, 2, 4), 3);
    }

    private void output() {
        openings.sentence("OUTPUT: what the outermost PACK gave");
        openings.faultUnder(OUTPUT, row(2, 8, 9, 0, 17), row(0, 800, 1500), row(0, 1, 0, 0, 1, 1));
        openings.faultUnder(OUTPUT, row(2, 8, 9, 0, 17), row(1, 800, 1500), row(0, 2, 1, 1, 1, 1), 8);
        openings.soundUnder(row(2, 8, 9, 0, 17), row(2, 800, 1500), row(4, 2, 2, 1, 2), 8, 9);
        openings.soundUnder(row(255, 0, 0, 0, 0), row(0, 800, 1500), row(2, 0, 0, 1, 2));
        int[] inner = row(192, 5, 2, 3, 4, 0, 7, 0, 7);
        openings.faultUnder(OUTPUT, inner, row(0, 800, 1500), row(0, 5, 2, 0, 2, 3));
        openings.faultUnder(OUTPUT, inner, row(1, 800, 1500), row(0, 6, 3, 1, 2, 3), 3);
        openings.soundUnder(inner, row(2, 800, 1500), row(8, 4, 2, 2, 4), 3, 4);
    }

    private void inThisOrder() {
        openings.sentence("When there would be more than the bound: 9 STEPS, 10 HELD, 8 OUTPUT, in this order");
        int[] one = row(1, 9, 0, 9);
        openings.faultUnder(STEPS, one, row(0, 0, 1), row(0, 1, 0, 0, 1, 1));
        openings.faultUnder(STEPS, one, row(0, 1, 1), row(0, 1, 0, 0, 1, 1));
        openings.faultUnder(STEPS, one, row(1, 0, 1), row(0, 1, 0, 0, 1, 1));
        openings.faultUnder(HELD, one, row(0, 0, 2), row(0, 1, 0, 0, 1, 1));
        openings.faultUnder(HELD, one, row(1, 0, 2), row(0, 1, 0, 0, 1, 1));
        openings.faultUnder(OUTPUT, one, row(0, 1, 2), row(0, 1, 0, 0, 1, 1));
        openings.soundUnder(one, row(1, 1, 3), row(3, 1, 1, 1, 2), 9);
        int[] many = row(5, 1, 2, 3, 4, 5, 0, 15);
        openings.faultUnder(STEPS, many, row(3, 3, 4), row(0, 4, 3, 3, 1, 1), 1, 2, 3);
        openings.faultUnder(HELD, many, row(3, 3, 5), row(0, 4, 3, 3, 1, 1), 1, 2, 3);
        openings.faultUnder(OUTPUT, many, row(3, 4, 5), row(0, 4, 3, 3, 1, 1), 1, 2, 3);
        openings.faultUnder(OUTPUT, many, row(2, 3, 4), row(0, 3, 2, 2, 1, 1), 1, 2);
        int[] again = row(128, 1, 7, 0, 14);
        openings.faultUnder(STEPS, again, row(1, 1, 3), row(0, 3, 1, 1, 1, 2), 7);
        openings.faultUnder(HELD, again, row(1, 1, 4), row(0, 3, 1, 1, 1, 2), 7);
        openings.faultUnder(OUTPUT, again, row(1, 2, 4), row(0, 3, 1, 1, 1, 2), 7);
        int[] inner = row(192, 4, 1, 5, 0, 5, 0, 5);
        openings.faultUnder(STEPS, inner, row(0, 1, 4), row(0, 4, 1, 0, 2, 3));
        openings.faultUnder(HELD, inner, row(0, 1, 5), row(0, 4, 1, 0, 2, 3));
        openings.faultUnder(OUTPUT, inner, row(0, 2, 5), row(0, 4, 1, 0, 2, 3));
    }

    private void placeOfTheItem() {
        openings.sentence("at the PLACE of the ITEM that begins; of a byte, of the ITEM that gives it");
        int[] items = row(1, 6, 65, 0, 255, 0, 1, 4, 0, 28);
        openings.faultUnder(OUTPUT, items, row(0, 800, 1500), row(0, 1, 0, 0, 1, 1));
        openings.faultUnder(OUTPUT, items, row(1, 800, 1500), row(2, 3, 1, 1, 1, 2), 6);
        openings.faultUnder(OUTPUT, items, row(3, 800, 1500), row(2, 5, 3, 3, 1, 2), 6, 6, 6);
        openings.faultUnder(OUTPUT, items, row(4, 800, 1500), row(4, 7, 4, 4, 1, 3), 6, 6, 6, 6);
        openings.faultUnder(STEPS, items, row(400, 800, 6), row(4, 6, 4, 4, 1, 2), 6, 6, 6, 6);
        openings.faultUnder(STEPS, items, row(400, 800, 8), row(8, 8, 5, 5, 1, 3), 6, 6, 6, 6, 4);
        openings.soundUnder(items, row(5, 5, 9), row(9, 5, 5, 1, 4), 6, 6, 6, 6, 4);
    }

    private void placeOfAgain() {
        openings.sentence("of the ITEM that gives it (AGAIN, from the second time on)");
        int[] again = row(1, 1, 128, 2, 3, 4, 0, 15);
        openings.faultUnder(OUTPUT, again, row(1, 800, 1500), row(3, 4, 1, 1, 1, 3), 1);
        openings.faultUnder(OUTPUT, again, row(2, 800, 1500), row(3, 5, 2, 2, 1, 3), 1, 3);
        openings.faultUnder(OUTPUT, again, row(3, 800, 1500), row(2, 6, 3, 3, 1, 3), 1, 3, 4);
        openings.faultUnder(HELD, again, row(400, 4, 1500), row(2, 7, 4, 4, 1, 3), 1, 3, 4, 3);
        openings.faultUnder(STEPS, again, row(5, 5, 8), row(6, 8, 5, 5, 1, 3), 1, 3, 4, 3, 4);
        int[] twice = row(128, 129, 1, 5, 0, 30);
        openings.faultUnder(OUTPUT, twice, row(0, 800, 1500), row(2, 3, 0, 0, 1, 3));
        openings.faultUnder(OUTPUT, twice, row(1, 800, 1500), row(1, 4, 1, 1, 1, 3), 5);
        openings.faultUnder(OUTPUT, twice, row(2, 800, 1500), row(1, 5, 2, 2, 1, 3), 5, 5);
        openings.faultUnder(OUTPUT, twice, row(3, 800, 1500), row(0, 6, 3, 3, 1, 3), 5, 5, 5);
        openings.faultUnder(OUTPUT, twice, row(5, 800, 1500), row(0, 8, 5, 5, 1, 3), 5, 5, 5, 5, 5);
    }

    private void placeOfInner() {
        openings.sentence("of the ITEM that gives it (INNER, what comes from it)");
        int[] inner = row(192, 5, 2, 3, 4, 0, 7, 0, 7);
        openings.faultUnder(HELD, inner, row(400, 1, 1500), row(2, 3, 1, 0, 2, 2));
        openings.faultUnder(HELD, inner, row(400, 2, 1500), row(0, 5, 2, 0, 2, 3));
        openings.faultUnder(HELD, inner, row(400, 3, 1500), row(0, 6, 3, 1, 2, 3), 3);
        int[] againInner = row(128, 192, 4, 1, 5, 0, 5, 0, 10);
        openings.faultUnder(OUTPUT, againInner, row(0, 800, 1500), row(1, 5, 1, 0, 2, 4));
        openings.faultUnder(OUTPUT, againInner, row(1, 800, 1500), row(0, 6, 2, 1, 2, 4), 5);
        int[] innerAgain = row(192, 5, 128, 1, 5, 0, 10, 0, 10);
        openings.faultUnder(HELD, innerAgain, row(400, 0, 1500), row(3, 3, 0, 0, 2, 3));
        openings.faultUnder(HELD, innerAgain, row(400, 1, 1500), row(2, 4, 1, 0, 2, 3));
        openings.faultUnder(HELD, innerAgain, row(400, 2, 1500), row(0, 6, 2, 0, 2, 4));
    }

    private void aheadOfEachByte() {
        openings.sentence("Bounds are looked at ahead of each byte");
        // Behind the last byte no bound is looked at: a SUM that is wrong or missing is met.
        openings.faultUnder(4, row(1, 9, 0, 8), row(1, 1, 3), row(3, 3, 1, 1, 1, 2), 9);
        openings.faultUnder(CUT, row(1, 9, 0), row(1, 1, 3), row(3, 3, 1, 1, 1, 2), 9);
        openings.faultUnder(5, row(1, 9, 0, 9, 1), row(1, 1, 3), row(4, 3, 1, 1, 1, 2), 9);
        // Faults that are met ahead of a byte come ahead of its bounds.
        openings.faultUnder(3, row(1, 9, 64, 1, 0, 9), row(1, 1, 3), row(3, 3, 1, 1, 1, 2), 9);
        openings.faultUnder(CUT, row(1, 9, 1), row(1, 1, 3), row(3, 3, 1, 1, 1, 2), 9);
        openings.faultUnder(CUT, row(1, 9, 64), row(1, 1, 3), row(3, 3, 1, 1, 1, 2), 9);
        // Bytes ahead of the first one that is too much are given.
        openings.faultUnder(OUTPUT, row(176, 134, 1, 1, 1, 2, 0, 0), row(400, 800, 1500),
            row(4, 404, 400, 400, 1, 4), Streams.times(400, 1));
    }

    private void stepAheadOfAllElse() {
        openings.sentence("an ITEM's STEP ahead of all else of it");
        openings.faultUnder(STEPS, row(3), row(0, 0, 0), row(0, 0, 0, 0, 1, 0));
        openings.faultUnder(STEPS, row(0), row(0, 0, 0), row(0, 0, 0, 0, 1, 0));
        openings.faultUnder(STEPS, row(0, 1), row(0, 0, 0), row(0, 0, 0, 0, 1, 0));
        openings.faultUnder(STEPS, row(255), row(0, 0, 0), row(0, 0, 0, 0, 1, 0));
        openings.faultUnder(STEPS, row(64, 0), row(0, 0, 0), row(0, 0, 0, 0, 1, 0));
        openings.faultUnder(STEPS, row(192), row(0, 0, 0), row(0, 0, 0, 0, 1, 0));
        openings.faultUnder(STEPS, row(192, 255), row(0, 0, 0), row(0, 0, 0, 0, 1, 0));
        openings.faultUnder(STEPS, row(128, 0), row(0, 0, 1), row(1, 1, 0, 0, 1, 1));
        openings.faultUnder(STEPS, Streams.nested(6, row(0, 0), 0), row(0, 0, 5), row(10, 5, 0, 0, 6, 5));
        // Where no byte stands no ITEM begins.
        openings.faultUnder(CUT, row(1, 9), row(1, 1, 2), row(2, 2, 1, 1, 1, 1), 9);
        openings.faultUnder(2, row(192, 2, 1, 9, 0, 0), row(0, 1, 3), row(1, 3, 1, 0, 2, 2));
    }

    private void greatest() {
        openings.sentence("the greatest bounds: OUTPUT 400, HELD 800, STEPS 1500");
        int[] most = {400, 800, 1500};
        int[] ones = Streams.times(400, 1);
        openings.soundUnder(Streams.fourHundred(), most, row(404, 400, 400, 1, 4), ones);
        openings.faultUnder(OUTPUT, row(176, 134, 1, 1, 1, 1, 0, 145), most, row(4, 404, 400, 400, 1, 4), ones);
        openings.soundUnder(Streams.eightHundredHeld(), most, row(806, 800, 400, 2, 6), ones);
        int[] firstOne = Streams.joined(row(1, 1), Streams.eightHundredHeld());
        openings.faultUnder(HELD, firstOne, most, row(2, 806, 800, 400, 2, 6), ones);
        int[] zeros = Streams.times(247, 0);
        openings.soundUnder(Streams.fifteenHundredSteps(), most, row(1500, 494, 247, 6, 18), zeros);
        int[] oneItem = Streams.joined(row(255, 0, 0), Streams.fifteenHundredSteps());
        openings.faultUnder(STEPS, oneItem, most, row(43, 1500, 494, 247, 6, 18), zeros);
    }
}
