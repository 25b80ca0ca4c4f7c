/** What a pack and its items are: sound ones, from the least to the greatest of each sort. */
final class OpeningItems {
    private final Openings openings;

    OpeningItems(Openings openings) {
        this.openings = openings;
    }

    void all() {
        end();
        raw();
        wide();
        copy();
        distance();
        again();
        inner();
    }

    private static int[] row(int... values) {
        return values;
    }

    private void end() {
        openings.sentence("0 END: then a byte, the SUM: the lowest 8 bits of the sum of all bytes that its PACK gave");
        openings.sound(row(0, 0), row(1, 0, 0, 1, 1));
        openings.sound(row(2, 255, 0, 0, 255), row(4, 2, 2, 1, 2), 255, 0);
        openings.sound(row(2, 255, 1, 0, 0), row(4, 2, 2, 1, 2), 255, 1);
        openings.sound(row(2, 255, 2, 0, 1), row(4, 2, 2, 1, 2), 255, 2);
        openings.sound(row(2, 255, 255, 0, 254), row(4, 2, 2, 1, 2), 255, 255);
        openings.sentence("the sum of all bytes that its PACK gave: not of another one");
        openings.sound(row(1, 5, 192, 2, 0, 0, 0, 5), row(5, 1, 1, 2, 4), 5);
        openings.sound(row(1, 5, 192, 4, 1, 6, 0, 6, 0, 11), row(8, 3, 2, 2, 5), 5, 6);
        openings.sound(row(192, 4, 1, 5, 0, 5, 192, 4, 1, 6, 0, 6, 0, 11), row(11, 3, 2, 2, 7), 5, 6);
    }

    private void raw() {
        openings.sentence("1 to 63 RAW: so many bytes follow, they are given");
        openings.sound(row(1, 7, 0, 7), row(3, 1, 1, 1, 2), 7);
        int[] most = Streams.times(63, 4);
        openings.sound(Streams.pack(Streams.joined(row(63), most), 252), row(65, 63, 63, 1, 2), most);
        openings.sound(row(3, 0, 255, 128, 0, 127), row(5, 3, 3, 1, 2), 0, 255, 128);
    }

    private void wide() {
        openings.sentence("255 WIDE: two bytes, the higher first, how many follow; likewise");
        openings.sound(row(255, 0, 0, 0, 0), row(2, 0, 0, 1, 2));
        openings.sound(row(255, 0, 1, 7, 0, 7), row(3, 1, 1, 1, 2), 7);
        int[] most = Streams.times(155, 1);
        openings.sound(Streams.fullOne(), row(157, 155, 155, 1, 2), most);
        openings.fault(1, Streams.joined(row(255, 1, 0), Streams.times(157, 1)), row(160, 1, 0, 0, 1, 1));
        openings.fault(1, row(255, 1, 0, 7, 0, 7), row(6, 1, 0, 0, 1, 1));
        openings.fault(1, row(255, 255, 255), row(3, 1, 0, 0, 1, 1));
    }

    private void copy() {
        openings.sentence("64 to 127 COPY: t - 62 bytes are given, one by one");
        openings.sound(row(1, 7, 64, 0, 0, 21), row(6, 3, 3, 1, 3), 7, 7, 7);
        openings.sound(row(1, 1, 127, 0, 0, 66), row(69, 66, 66, 1, 3), Streams.times(66, 1));
        openings.sound(row(2, 1, 2, 65, 1, 0, 7), row(8, 5, 5, 1, 3), 1, 2, 1, 2, 1);
        openings.sound(row(3, 1, 2, 3, 64, 2, 0, 9), row(8, 5, 5, 1, 3), 1, 2, 3, 1, 2);
    }

    private void distance() {
        openings.sentence("each what the PACK gave DISTANCE bytes before it, which is the next byte and 1");
        int[] most = Streams.joined(Streams.times(64, 9, 1, 1, 1), row(9, 1));
        openings.sound(row(190, 4, 9, 1, 1, 1, 64, 255, 0, 10), row(262, 258, 258, 1, 4), most);
        int[] oneLess = Streams.joined(Streams.times(51, 5, 1, 1, 1, 1), row(5, 1));
        openings.sound(row(177, 5, 5, 1, 1, 1, 1, 64, 254, 0, 209), row(261, 257, 257, 1, 4), oneLess);
        openings.sound(row(2, 8, 9, 64, 1, 0, 34), row(7, 4, 4, 1, 3), 8, 9, 8, 9);
        openings.sound(row(2, 8, 9, 64, 0, 0, 35), row(7, 4, 4, 1, 3), 8, 9, 9, 9);
    }

    private void again() {
        openings.sentence("128 to 191 AGAIN: what this gives is given t - 126 times in all, one behind the other");
        openings.sound(row(128, 1, 5, 0, 10), row(5, 2, 2, 1, 3), 5, 5);
        openings.sound(row(191, 1, 2, 0, 130), row(68, 65, 65, 1, 3), Streams.times(65, 2));
        openings.sound(row(128, 2, 1, 2, 0, 6), row(7, 4, 4, 1, 3), 1, 2, 1, 2);
        openings.sound(row(2, 1, 2, 128, 64, 0, 0, 11), row(10, 6, 6, 1, 4), 1, 2, 2, 2, 2, 2);
        openings.sound(row(2, 1, 2, 128, 64, 1, 0, 9), row(10, 6, 6, 1, 4), 1, 2, 1, 2, 1, 2);
        openings.sound(row(3, 1, 2, 3, 128, 64, 2, 0, 12), row(11, 7, 7, 1, 4), 1, 2, 3, 1, 2, 1, 2);
        openings.sound(row(191, 255, 0, 0, 0, 0), row(3, 0, 0, 1, 3));
        openings.sound(row(128, 192, 4, 1, 5, 0, 5, 0, 10), row(8, 2, 2, 2, 5), 5, 5);
        openings.sound(row(129, 192, 2, 0, 0, 0, 0), row(4, 0, 0, 2, 4));
        openings.sentence("128 to 191 AGAIN: an ITEM follows: also AGAIN");
        openings.sound(row(128, 129, 1, 5, 0, 30), row(10, 6, 6, 1, 4), 5, 5, 5, 5, 5, 5);
        openings.sound(row(129, 128, 2, 1, 2, 0, 18), row(16, 12, 12, 1, 4), 1, 2, 1, 2, 1, 2, 1, 2, 1, 2, 1, 2);
        int[] chain = Streams.joined(Streams.times(155, 191), row(255, 0, 0, 0, 0));
        openings.sound(chain, row(157, 0, 0, 1, 157));
    }

    private void inner() {
        openings.sentence("192 to 254 INNER: a byte n, then a PACK of n bytes");
        openings.sound(row(192, 2, 0, 0, 0, 0), row(3, 0, 0, 2, 3));
        openings.sound(row(254, 2, 0, 0, 1, 4, 0, 4), row(5, 1, 1, 2, 4), 4);
        openings.sound(row(223, 5, 2, 3, 4, 0, 7, 0, 7), row(8, 4, 2, 2, 4), 3, 4);
        int[] most = Streams.times(151, 1);
        int[] longest = Streams.nested(1, Streams.pack(Streams.joined(row(255, 0, 151), most), 151), 151);
        openings.due("the longest INNER's n", longest[1], 156);
        openings.sound(longest, row(306, 302, 151, 2, 4), most);
        openings.sentence("INNER: when it has ended, what it gave is given by the outer one");
        openings.sound(row(192, 4, 1, 5, 0, 5, 64, 0, 0, 15), row(9, 3, 3, 2, 5), 5, 5, 5);
        openings.fault(4, row(192, 4, 1, 5, 0, 4, 0, 5), row(5, 4, 1, 0, 2, 3));
    }
}
