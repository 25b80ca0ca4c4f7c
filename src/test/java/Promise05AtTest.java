/** Promise 5: at. */
final class Promise05AtTest {
    public static void main(String[] args) {
        Check check = new Check("Promise05AtTest");
        firstAndLast(check);
        none(check);
        check.end();
    }

    private static void firstAndLast(Check check) {
        check.sentence("Byte i of THE STREAM, PLACES from 0 on");
        PackDrawer x = Streams.of(255, 5, 0);
        check.due("at(0)", x.at(0), 255);
        check.due("at(1)", x.at(1), 5);
        check.due("at(2)", x.at(2), 0);
        PackDrawer full = Streams.of(Streams.fullOne());
        check.due("at(0) of a full one", full.at(0), 255);
        check.due("at(159) of a full one", full.at(159), 155);
        check.due("length() behind at", full.length(), 160);
    }

    private static void none(Check check) {
        check.sentence("NONE");
        PackDrawer x = Streams.of(255, 5, 0);
        for (int i : new int[] {-1, 3, 4, 159, 160, Integer.MIN_VALUE, Integer.MAX_VALUE}) {
            check.due("at(" + i + ")", x.at(i), PackDrawer.NONE);
        }
        check.due("at(0) of none", new PackDrawer().at(0), PackDrawer.NONE);
        check.due("at(160) of a full one", Streams.of(Streams.fullOne()).at(160), PackDrawer.NONE);
        x.cut(1);
        check.due("at(1) behind cut(1)", x.at(1), PackDrawer.NONE);
    }
}
