/** Faults: each kind at its edges, and which one is met first. */
final class OpeningFaults {
    private static final int CUT = 1;
    private static final int LIE = 2;
    private static final int BACK = 3;
    private static final int SUM = 4;
    private static final int MORE = 5;
    private static final int DEEP = 6;
    private static final int NOT = 7;

    private final Openings openings;

    OpeningFaults(Openings openings) {
        this.openings = openings;
    }

    void all() {
        cut();
        cutAheadOfAllThatIsGiven();
        leadsBeyondTheStream();
        leadsBeyondAnInner();
        endsWhereMoreShouldStand();
        innermostOfSeveral();
        endedAhead();
        back();
        sum();
        more();
        deep();
        not();
    }

    private static int[] row(int... values) {
        return values;
    }

    private void cut() {
        openings.sentence("1 CUT: THE STREAM ends where more bytes should stand: its length");
        openings.fault(CUT, row(), row(0, 0, 0, 0, 1, 0));
        openings.faultUnder(CUT, row(), row(0, 0, 0), row(0, 0, 0, 0, 1, 0));
        openings.fault(CUT, row(0), row(1, 1, 0, 0, 1, 1));
        openings.fault(CUT, row(1), row(1, 1, 0, 0, 1, 1));
        openings.fault(CUT, row(1, 4), row(2, 2, 1, 1, 1, 1), 4);
        openings.faultUnder(CUT, row(1, 4), row(1, 1, 2), row(2, 2, 1, 1, 1, 1), 4);
        openings.fault(CUT, row(255), row(1, 1, 0, 0, 1, 1));
        openings.fault(CUT, row(255, 0), row(2, 1, 0, 0, 1, 1));
        openings.fault(CUT, row(255, 0, 0), row(3, 1, 0, 0, 1, 1));
        openings.fault(CUT, row(64), row(1, 1, 0, 0, 1, 1));
        openings.fault(CUT, row(128), row(1, 1, 0, 0, 1, 1));
        openings.fault(CUT, row(192), row(1, 1, 0, 0, 1, 1));
        openings.fault(CUT, row(192, 2, 0, 0), row(4, 2, 0, 0, 2, 2));
        openings.fault(CUT, Streams.times(160, 128), row(160, 160, 0, 0, 1, 160));
    }

    private void cutAheadOfAllThatIsGiven() {
        openings.sentence("CUT: (of RAW, WIDE ahead of all that is given by it)");
        openings.fault(CUT, row(3, 1, 2), row(3, 1, 0, 0, 1, 1));
        openings.faultUnder(CUT, row(3, 1, 2), row(0, 0, 1), row(3, 1, 0, 0, 1, 1));
        openings.fault(CUT, row(1, 6, 255, 0, 3, 1, 2), row(7, 3, 1, 1, 1, 2), 6);
        openings.faultUnder(CUT, row(1, 6, 255, 0, 3, 1, 2), row(1, 1, 3), row(7, 3, 1, 1, 1, 2), 6);
        openings.fault(CUT, Streams.joined(row(63), Streams.times(62, 1)), row(63, 1, 0, 0, 1, 1));
        openings.fault(CUT, Streams.joined(row(255, 0, 158), Streams.times(157, 1)), row(160, 1, 0, 0, 1, 1));
        openings.faultUnder(LIE, row(192, 3, 3, 1, 2, 3, 0, 0), row(0, 0, 2), row(1, 2, 0, 0, 2, 2));
    }

    private void leadsBeyondTheStream() {
        openings.sentence("2 LIE: the PLACE of an INNER's n: it leads beyond the end of THE STREAM (at once)");
        openings.fault(LIE, row(192, 3, 0, 0), row(1, 1, 0, 0, 1, 1));
        openings.fault(LIE, row(192, 1), row(1, 1, 0, 0, 1, 1));
        openings.fault(LIE, row(192, 255), row(1, 1, 0, 0, 1, 1));
        openings.fault(LIE, row(192, 3, 64, 0), row(1, 1, 0, 0, 1, 1));
        openings.fault(LIE, Streams.joined(row(192, 159), Streams.times(158, 128)), row(1, 1, 0, 0, 1, 1));
        openings.fault(LIE, row(128, 128, 192, 1), row(3, 3, 0, 0, 1, 3));
        openings.faultUnder(LIE, row(192, 1), row(0, 0, 1), row(1, 1, 0, 0, 1, 1));
    }

    private void leadsBeyondAnInner() {
        openings.sentence("2 LIE: it leads beyond the end of an INNER around it (at once)");
        openings.fault(LIE, row(192, 4, 192, 3, 0, 0, 0, 0), row(3, 2, 0, 0, 2, 2));
        openings.fault(LIE, row(192, 2, 192, 1, 0, 0, 0, 0), row(3, 2, 0, 0, 2, 2));
        openings.fault(LIE, row(192, 8, 192, 4, 192, 3, 0, 0, 0, 0, 0, 0), row(5, 3, 0, 0, 3, 3));
        openings.fault(LIE, row(192, 4, 192, 200, 0, 0, 0, 0), row(3, 2, 0, 0, 2, 2));
    }

    private void endsWhereMoreShouldStand() {
        openings.sentence("2 LIE: its n bytes end where more should stand");
        openings.fault(LIE, row(192, 0, 0, 0), row(1, 1, 0, 0, 2, 1));
        openings.faultUnder(LIE, row(192, 0, 0, 0), row(0, 0, 1), row(1, 1, 0, 0, 2, 1));
        openings.fault(LIE, row(192, 1, 0, 0, 0, 0), row(1, 2, 0, 0, 2, 2));
        openings.fault(LIE, row(192, 1, 1, 5, 0, 5, 0, 5), row(1, 2, 0, 0, 2, 2));
        openings.fault(LIE, row(192, 2, 1, 5, 0, 5, 0, 5), row(1, 3, 1, 0, 2, 2));
        openings.fault(LIE, row(192, 3, 1, 5, 0, 5, 0, 5), row(1, 4, 1, 0, 2, 3));
        openings.fault(LIE, row(192, 3, 3, 1, 2, 3, 0, 6, 0, 6), row(1, 2, 0, 0, 2, 2));
        openings.fault(LIE, row(192, 1, 255, 0, 0, 0, 0), row(1, 2, 0, 0, 2, 2));
        openings.fault(LIE, row(192, 2, 255, 0, 0, 0, 0), row(1, 2, 0, 0, 2, 2));
        openings.fault(LIE, row(192, 3, 255, 0, 1, 5, 0, 5), row(1, 2, 0, 0, 2, 2));
        openings.fault(LIE, row(192, 3, 255, 0, 0, 0, 0, 0, 0), row(1, 2, 0, 0, 2, 2));
        openings.fault(LIE, row(192, 3, 1, 5, 64, 0, 0, 0), row(1, 4, 1, 0, 2, 3));
        openings.fault(LIE, row(192, 1, 128, 1, 5, 0, 5), row(1, 2, 0, 0, 2, 2));
        openings.fault(LIE, row(192, 1, 192, 2, 0, 0, 0, 0), row(1, 2, 0, 0, 2, 2));
        openings.sentence("2 LIE: its n bytes end where more should stand: also where THE STREAM ends");
        openings.fault(LIE, row(192, 0), row(1, 1, 0, 0, 2, 1));
        openings.fault(LIE, row(192, 1, 0), row(1, 2, 0, 0, 2, 2));
        openings.fault(LIE, row(192, 2, 5, 1), row(1, 2, 0, 0, 2, 2));
        openings.fault(LIE, row(192, 1, 192), row(1, 2, 0, 0, 2, 2));
    }

    private void innermostOfSeveral() {
        openings.sentence("LIE: (of several INNERS that end there the innermost's n)");
        openings.fault(LIE, row(192, 4, 192, 2, 1, 9, 0, 0), row(3, 4, 1, 0, 3, 3));
        openings.fault(LIE, row(192, 4, 192, 2, 1, 9), row(3, 4, 1, 0, 3, 3));
        openings.fault(LIE, row(192, 5, 192, 3, 192, 1, 0, 0, 0), row(5, 4, 0, 0, 4, 4));
        openings.fault(LIE, row(192, 2, 192, 0, 0, 0), row(3, 2, 0, 0, 3, 2));
        // The innermost pack has ended there, so more should stand in the one around it.
        openings.fault(LIE, row(192, 4, 192, 2, 0, 0, 0, 0), row(1, 3, 0, 0, 3, 3));
        openings.fault(LIE, row(192, 4, 192, 2, 0, 0), row(1, 3, 0, 0, 3, 3));
        openings.fault(LIE, row(192, 6, 192, 4, 192, 2, 0, 0, 0, 0), row(3, 4, 0, 0, 4, 4));
    }

    private void endedAhead() {
        openings.sentence("2 LIE: its PACK has ended ahead of its n bytes");
        openings.fault(LIE, row(192, 3, 0, 0, 0, 0, 0), row(1, 2, 0, 0, 2, 2));
        openings.fault(LIE, row(192, 3, 0, 0, 7), row(1, 2, 0, 0, 2, 2));
        openings.fault(LIE, row(192, 5, 1, 6, 0, 6, 9, 0, 6), row(1, 4, 1, 0, 2, 3));
        openings.fault(LIE, row(192, 8, 192, 3, 0, 0, 0, 0, 0, 0, 0, 0), row(3, 3, 0, 0, 3, 3));
        openings.fault(LIE, row(128, 192, 5, 1, 6, 0, 6, 9, 0, 12), row(2, 5, 1, 0, 2, 4));
        openings.sentence("LIE: its PACK has ended: behind its SUM, ahead of what the outer one gives");
        openings.fault(SUM, row(192, 3, 0, 1, 0, 0, 0), row(3, 2, 0, 0, 2, 2));
        openings.faultUnder(LIE, row(192, 5, 1, 6, 0, 6, 9, 0, 6), row(0, 1, 4), row(1, 4, 1, 0, 2, 3));
    }

    private void back() {
        openings.sentence("3 BACK: a DISTANCE beyond what the PACK gave: its PLACE");
        openings.fault(BACK, row(64, 0, 0, 0), row(1, 1, 0, 0, 1, 1));
        openings.fault(BACK, row(64, 255, 0, 0), row(1, 1, 0, 0, 1, 1));
        openings.fault(BACK, row(1, 5, 64, 1, 0, 5), row(3, 3, 1, 1, 1, 2), 5);
        openings.fault(BACK, row(2, 5, 5, 127, 2, 0, 10), row(4, 4, 2, 2, 1, 2), 5, 5);
        openings.fault(BACK, row(128, 64, 0, 0, 0), row(2, 2, 0, 0, 1, 2));
        openings.fault(BACK, row(177, 5, 1, 1, 1, 1, 1, 64, 255, 0, 1), row(8, 258, 255, 255, 1, 3),
            Streams.times(255, 1));
        openings.sentence("3 BACK: what the PACK gave: not one around it, nor an INNER that has not given it");
        openings.fault(BACK, row(1, 5, 192, 4, 64, 0, 0, 0, 0, 5), row(5, 4, 1, 1, 2, 3), 5);
        openings.fault(BACK, row(1, 5, 192, 6, 1, 7, 64, 1, 0, 0, 0, 5), row(7, 6, 2, 1, 2, 4), 5);
        openings.faultUnder(BACK, row(64, 0), row(0, 0, 1), row(1, 1, 0, 0, 1, 1));
    }

    private void sum() {
        openings.sentence("4 SUM: another one: its PLACE");
        openings.fault(SUM, row(0, 1), row(1, 1, 0, 0, 1, 1));
        openings.fault(SUM, row(0, 255), row(1, 1, 0, 0, 1, 1));
        openings.fault(SUM, row(2, 255, 1, 0, 1), row(4, 4, 2, 2, 1, 2), 255, 1);
        openings.fault(SUM, row(2, 255, 1, 0, 255), row(4, 4, 2, 2, 1, 2), 255, 1);
        openings.fault(SUM, row(192, 2, 0, 1, 0, 0), row(3, 2, 0, 0, 2, 2));
        openings.fault(SUM, row(192, 4, 1, 5, 0, 5, 0, 0), row(7, 6, 2, 1, 2, 4), 5);
        openings.fault(SUM, row(1, 5, 192, 2, 0, 5, 0, 5), row(5, 4, 1, 1, 2, 3), 5);
    }

    private void more() {
        openings.sentence("5 MORE: bytes behind the outermost END: the first one's PLACE");
        openings.fault(MORE, row(0, 0, 0), row(2, 1, 0, 0, 1, 1));
        openings.fault(MORE, row(1, 9, 0, 9, 7, 7, 7), row(4, 3, 1, 1, 1, 2), 9);
        openings.faultUnder(MORE, row(0, 0, 0, 0), row(0, 0, 1), row(2, 1, 0, 0, 1, 1));
        openings.fault(MORE, row(192, 2, 0, 0, 0, 0, 192), row(6, 3, 0, 0, 2, 3));
        int[] full = Streams.joined(Streams.row(255, 0, 154), Streams.times(156, 0), row(0));
        openings.fault(MORE, full, row(159, 156, 154, 154, 1, 2), Streams.times(154, 0));
        openings.fault(SUM, row(1, 5, 0, 4, 9), row(3, 3, 1, 1, 1, 2), 5);
    }

    private void deep() {
        openings.sentence("6 DEEP: an INNER that would be the seventh PACK deep (the outermost is the first one)");
        openings.sound(Streams.nested(5, row(0, 0), 0), row(11, 0, 0, 6, 11));
        openings.sound(Streams.nested(5, row(1, 3, 0, 3), 3), row(18, 2, 1, 6, 12), 3);
        openings.fault(DEEP, Streams.nested(6, row(0, 0), 0), row(10, 6, 0, 0, 6, 6));
        openings.sentence("DEEP: the PLACE of the INNER's t, ahead of its n");
        openings.fault(DEEP, row(192, 9, 192, 7, 192, 5, 192, 3, 192, 1, 192), row(10, 6, 0, 0, 6, 6));
        openings.fault(DEEP, row(192, 10, 192, 8, 192, 6, 192, 4, 192, 2, 254, 255), row(10, 6, 0, 0, 6, 6));
        openings.fault(DEEP, row(192, 10, 192, 8, 192, 6, 192, 4, 192, 2, 128, 192), row(11, 7, 0, 0, 6, 7));
        openings.sentence("DEEP: packs that have ended are not counted");
        openings.sound(row(192, 2, 0, 0, 192, 2, 0, 0, 192, 2, 0, 0, 192, 2, 0, 0, 192, 2, 0, 0, 192, 2, 0, 0, 192, 2,
            0, 0, 0, 0), row(15, 0, 0, 2, 15));
    }

    private void not() {
        openings.sentence("7 NOT: an END behind AGAIN: its PLACE");
        openings.fault(NOT, row(128, 0, 0), row(1, 2, 0, 0, 1, 2));
        openings.fault(NOT, row(128, 0), row(1, 2, 0, 0, 1, 2));
        openings.fault(NOT, row(1, 3, 128, 129, 0, 9), row(4, 5, 1, 1, 1, 4), 3);
        openings.fault(NOT, row(192, 3, 191, 0, 0, 0, 0), row(3, 3, 0, 0, 2, 3));
        openings.fault(NOT, row(192, 2, 191, 0, 0, 0), row(3, 3, 0, 0, 2, 3));
        // Its SUM would be right, but the pack does not end there.
        openings.fault(NOT, row(192, 5, 1, 5, 128, 0, 5, 0, 5), row(5, 5, 1, 0, 2, 4));
        openings.fault(NOT, row(1, 5, 128, 0, 5), row(3, 4, 1, 1, 1, 3), 5);
        openings.fault(NOT, Streams.joined(Streams.times(159, 128), row(0)), row(159, 160, 0, 0, 1, 160));
    }
}
