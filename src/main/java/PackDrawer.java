/**
 * Streams of packs: made by hand, by a seed or as bombs, with a fault planted,
 * opened under bounds by two readers, and made shorter while the verdict stays.
 */
public final class PackDrawer {
    public static final int NONE = -1, BAD = -2, FULL = -3, NO = -4;

    private static final int MOST_BYTES = 160;
    private static final int MOST_OUTPUT = 400;
    private static final int MOST_HELD = 800;
    private static final int MOST_STEPS = 1500;
    private static final int MOST_DEEP = 6;
    private static final int MOST_LEVELS = 12;
    private static final int LEAST_TIMES = 2;
    private static final int MOST_TIMES = 65;
    private static final int LOW_BYTE = 255;

    // The kinds of faults, as the document numbers them; SOUND is the verdict where there is none.
    private static final int SOUND = 0;
    private static final int CUT = 1;
    private static final int LIE = 2;
    private static final int BACK = 3;
    private static final int SUM = 4;
    private static final int MORE = 5;
    private static final int DEEP = 6;
    private static final int NOT = 7;
    private static final int OUTPUT = 8;
    private static final int STEPS = 9;
    private static final int HELD = 10;

    // The sorts of items, and the bytes that they begin with.
    private static final int END_ITEM = 0;
    private static final int RAW_ITEM = 1;
    private static final int COPY_ITEM = 2;
    private static final int AGAIN_ITEM = 3;
    private static final int INNER_ITEM = 4;
    private static final int WIDE_ITEM = 5;
    private static final int END_T = 0;
    private static final int COPY_T = 64;
    private static final int AGAIN_T = 128;
    private static final int INNER_T = 192;
    private static final int WIDE_T = 255;
    private static final int LEAST_COPY = 2;

    private final Stream stream = new Stream();
    private final Stream trial = new Stream();
    private final Account latest = new Account();
    // Verdicts are found apart from the latest opening, which stays what is told.
    private final Account tested = new Account();
    private final AheadReader opener = new AheadReader(stream, latest);
    private final PlainReader plainOpener = new PlainReader(stream, latest);
    private final AheadReader tester = new AheadReader(trial, tested);
    private final Drawer drawer = new Drawer(stream);

    public PackDrawer() {
    }

    public int put(int v) {
        if (!isByte(v)) {
            return BAD;
        }
        if (stream.isFull()) {
            return FULL;
        }
        stream.append(v);
        return stream.count();
    }

    public int cut(int n) {
        int before = stream.count();
        if (n < 0 || n > before) {
            return BAD;
        }
        stream.keep(n);
        return before - n;
    }

    public int poke(int place, int v) {
        if (!stream.has(place) || !isByte(v)) {
            return BAD;
        }
        int before = stream.byteAt(place);
        stream.change(place, v);
        return before;
    }

    public int at(int i) {
        return stream.has(i) ? stream.byteAt(i) : NONE;
    }

    public int length() {
        return stream.count();
    }

    public int draw(long seed, int sort, int size) {
        if (sort < 0 || sort > 2 || size < 1 || size > 5) {
            return BAD;
        }
        drawer.drawStream(seed, sort, size);
        return stream.count();
    }

    public int bomb(int levels, int times, int b) {
        if (levels < 0 || levels > MOST_LEVELS || times < LEAST_TIMES || times > MOST_TIMES || !isByte(b)) {
            return BAD;
        }
        stream.keep(0);
        for (int level = levels; level > 0; level--) {
            stream.append(AGAIN_T + times - LEAST_TIMES);
            stream.append(INNER_T);
            stream.append(bombLength(level - 1));
        }
        stream.append(1);
        stream.append(b);
        int sum = b;
        for (int level = 0; level <= levels; level++) {
            stream.append(END_T);
            stream.append(sum & LOW_BYTE);
            sum = (sum * times) & LOW_BYTE;
        }
        return stream.count();
    }

    public int plant(int what) {
        if (what < CUT || what > NOT || what == DEEP) {
            return BAD;
        }
        if (what == MORE && stream.isFull()) {
            return FULL;
        }
        if (greatestVerdict() != SOUND || !plantInSound(what)) {
            return NO;
        }
        return greatestVerdict();
    }

    public int open(int output, int held, int steps) {
        if (!areBounds(output, held, steps)) {
            return BAD;
        }
        opener.read(output, held, steps);
        return latest.answer();
    }

    public int plain(int output, int held, int steps) {
        if (!areBounds(output, held, steps)) {
            return BAD;
        }
        plainOpener.read(output, held, steps);
        return latest.answer();
    }

    public int told(int what) {
        switch (what) {
            case 0:
                return latest.failed() ? latest.kind : NONE;
            case 1:
                return latest.place;
            case 2:
                return latest.steps;
            case 3:
                return latest.mostHeld;
            case 4:
                return latest.output;
            case 5:
                return latest.deepest;
            case 6:
                return latest.items;
            default:
                return BAD;
        }
    }

    public int given(int i) {
        return i >= 0 && i < latest.output ? latest.row.byteAt(i) : NONE;
    }

    public int shorter(int output, int held, int steps) {
        if (!areBounds(output, held, steps)) {
            return BAD;
        }
        int before = stream.count();
        trial.become(stream);
        int verdict = tester.read(output, held, steps);
        int place = 0;
        for (int looked = 0; looked < before; looked++) {
            trial.become(stream);
            trial.leaveOut(place);
            if (tester.read(output, held, steps) == verdict) {
                stream.leaveOut(place);
            } else {
                place++;
            }
        }
        return before - stream.count();
    }

    private static boolean isByte(int v) {
        return v >= 0 && v <= LOW_BYTE;
    }

    private static boolean areBounds(int output, int held, int steps) {
        return output >= 0 && output <= MOST_OUTPUT
            && held >= 0 && held <= MOST_HELD
            && steps >= 0 && steps <= MOST_STEPS;
    }

    private static int bombLength(int levels) {
        return 4 + 5 * levels;
    }

    private int greatestVerdict() {
        trial.become(stream);
        return tester.read(MOST_OUTPUT, MOST_HELD, MOST_STEPS);
    }

    /** Whether there was something to plant it in; the stream has no fault. */
    private boolean plantInSound(int what) {
        int last = stream.count() - 1;
        switch (what) {
            case CUT:
                stream.keep(last);
                return true;
            case LIE:
                return plantInItem(INNER_ITEM, what);
            case BACK:
                return plantInItem(COPY_ITEM, what);
            case SUM:
                stream.change(last, stream.byteAt(last) ^ 1);
                return true;
            case MORE:
                stream.append(7);
                return true;
            default:
                return plantInItem(AGAIN_ITEM, what);
        }
    }

    private boolean plantInItem(int sort, int what) {
        int place = leastPlace(sort);
        if (place == NONE) {
            return false;
        }
        int behind = place + 1;
        if (what == LIE) {
            stream.change(behind, (stream.byteAt(behind) + 1) & LOW_BYTE);
        } else {
            stream.change(behind, what == BACK ? LOW_BYTE : END_T);
        }
        return true;
    }

    /** The least place of an item of that sort in a stream without a fault. */
    private int leastPlace(int sort) {
        int place = 0;
        for (int i = 0; i < MOST_BYTES && stream.has(place); i++) {
            if (sortOf(stream.byteAt(place)) == sort) {
                return place;
            }
            place += span(place);
        }
        return NONE;
    }

    /** How far behind an item's place the next one stands; an INNER's pack begins with the next one. */
    private int span(int place) {
        int t = stream.byteAt(place);
        switch (sortOf(t)) {
            case RAW_ITEM:
                return 1 + t;
            case WIDE_ITEM:
                return 3 + stream.byteAt(place + 1) * 256 + stream.byteAt(place + 2);
            case AGAIN_ITEM:
                return 1;
            default:
                return 2;
        }
    }

    private static int sortOf(int t) {
        if (t == END_T) {
            return END_ITEM;
        }
        if (t < COPY_T) {
            return RAW_ITEM;
        }
        if (t < AGAIN_T) {
            return COPY_ITEM;
        }
        if (t < INNER_T) {
            return AGAIN_ITEM;
        }
        return t < WIDE_T ? INNER_ITEM : WIDE_ITEM;
    }

    /** How many times more than once an AGAIN's item is given. */
    private static int timesMore(int t) {
        return t - AGAIN_T + LEAST_TIMES - 1;
    }

    private static int copyCount(int t) {
        return t - COPY_T + LEAST_COPY;
    }

    /** Bytes with places from 0 on. */
    private static final class Stream {
        private final int[] bytes = new int[MOST_BYTES];
        private int count;

        int count() {
            return count;
        }

        boolean isFull() {
            return count >= bytes.length;
        }

        boolean has(int place) {
            return place >= 0 && place < count;
        }

        int byteAt(int place) {
            return has(place) ? bytes[place] : 0;
        }

        void append(int v) {
            if (count < bytes.length) {
                bytes[count] = v;
                count++;
            }
        }

        void keep(int n) {
            if (n >= 0 && n < count) {
                count = n;
            }
        }

        void change(int place, int v) {
            if (has(place)) {
                bytes[place] = v;
            }
        }

        void leaveOut(int place) {
            if (has(place)) {
                System.arraycopy(bytes, place + 1, bytes, place, count - place - 1);
                count--;
            }
        }

        void become(Stream other) {
            System.arraycopy(other.bytes, 0, bytes, 0, other.count);
            count = other.count;
        }
    }

    /**
     * The bytes that the open packs gave, the outermost one's first. An inner pack's begin where
     * the outer one's next byte will stand: so they lie in place when that one gives them.
     */
    private static final class Row {
        private final int[] cells = new int[MOST_HELD];
        private int top;

        int top() {
            return top;
        }

        void backTo(int start) {
            if (start >= 0 && start < top) {
                top = start;
            }
        }

        void push(int v) {
            if (top < cells.length) {
                cells[top] = v;
                top++;
            }
        }

        /** Also a byte that stands above the top, until another one is pushed there. */
        int byteAt(int i) {
            return i >= 0 && i < cells.length ? cells[i] : 0;
        }

        /** One by one, so that a byte may come from one that was copied just now. */
        void copyFromBefore(int distance, int count) {
            for (int i = 0; i < count; i++) {
                push(byteAt(top - distance));
            }
        }

        int sumFrom(int base) {
            int sum = 0;
            for (int i = base; i < top; i++) {
                sum += byteAt(i);
            }
            return sum & LOW_BYTE;
        }
    }

    /** What one opening may do, what it did, and what the packs in it gave. */
    private static final class Account {
        private final Row row = new Row();
        private int outputBound;
        private int heldBound;
        private int stepsBound;
        private int kind = SOUND;
        private int place = NONE;
        private int steps;
        private int held;
        private int mostHeld;
        private int output;
        private int deepest;
        private int items;

        void start(int mostOutput, int mostHeldAtOnce, int mostSteps) {
            outputBound = mostOutput;
            heldBound = mostHeldAtOnce;
            stepsBound = mostSteps;
            row.backTo(0);
            kind = SOUND;
            place = NONE;
            steps = 0;
            held = 0;
            mostHeld = 0;
            output = 0;
            deepest = 0;
            items = 0;
        }

        boolean failed() {
            return kind != SOUND;
        }

        /** The first fault ends all, so a later one is not taken. */
        void fail(int faultKind, int faultPlace) {
            if (kind == SOUND) {
                kind = faultKind;
                place = faultPlace;
            }
        }

        int answer() {
            return failed() ? -10 - kind : output;
        }

        void reachDepth(int depth) {
            deepest = Math.max(deepest, depth);
        }

        boolean beginItem(int itemPlace) {
            if (steps >= stepsBound) {
                fail(STEPS, itemPlace);
                return false;
            }
            steps++;
            items++;
            return true;
        }

        /** How many of so many bytes may be given; they are charged, and the first that may not is the fault. */
        int ask(int count, int itemPlace, boolean outermost) {
            int allowed = Math.min(count, Math.min(stepsBound - steps, heldBound - held));
            if (outermost) {
                allowed = Math.min(allowed, outputBound - output);
            }
            charge(allowed, outermost);
            if (allowed < count) {
                fail(tightBound(), itemPlace);
            }
            return allowed;
        }

        /** Which bound refuses the next byte, where one of them does. */
        private int tightBound() {
            if (steps >= stepsBound) {
                return STEPS;
            }
            return held >= heldBound ? HELD : OUTPUT;
        }

        private void charge(int count, boolean outermost) {
            steps += count;
            held += count;
            if (held > mostHeld) {
                mostHeld = held;
            }
            if (outermost) {
                output += count;
            }
        }

        /** One byte is given, or the first bound that is in its way refuses it; behind a fault nothing is given. */
        void give(int v, int itemPlace, boolean outermost) {
            if (kind != SOUND) {
                return;
            }
            if (steps >= stepsBound) {
                fail(STEPS, itemPlace);
            } else if (held >= heldBound) {
                fail(HELD, itemPlace);
            } else if (outermost && output >= outputBound) {
                fail(OUTPUT, itemPlace);
            } else {
                charge(1, outermost);
                row.push(v);
            }
        }

        void release(int count) {
            held -= count;
        }
    }

    /**
     * Asks ahead of each item whether all its bytes stand there, and how many
     * of the bytes that it gives the bounds allow. Holds the open packs in rows.
     */
    private static final class AheadReader {
        private final Stream stream;
        private final Account account;
        private final Row row;
        // Of the open pack at each depth: where its bytes begin in the account's row; the place behind
        // its last one; the place that is told when a byte is missing; the place where its item began,
        // which is the first AGAIN ahead of the INNER if there is one.
        private final int[] base = new int[MOST_DEEP + 1];
        private final int[] end = new int[MOST_DEEP + 1];
        private final int[] blamed = new int[MOST_DEEP + 1];
        private final int[] origin = new int[MOST_DEEP + 1];
        private int depth;
        private int next;
        // Of the item that is read: the place of the first AGAIN ahead of it, or its own; its place;
        // and where what it gives begins in the account's row.
        private int first;
        private int place;
        private int start;

        AheadReader(Stream read, Account kept) {
            stream = read;
            account = kept;
            row = kept.row;
        }

        /** The verdict: the kind of the fault, or SOUND. */
        int read(int output, int held, int steps) {
            account.start(output, held, steps);
            depth = 0;
            next = 0;
            enterPack(stream.count(), stream.count(), 0);
            // Each turn reads a byte or more, or ends all.
            for (int turn = 0; turn <= MOST_BYTES && depth > 0 && !account.failed(); turn++) {
                readItem();
            }
            return account.kind;
        }

        private void enterPack(int packEnd, int blamedPlace, int originPlace) {
            if (depth >= MOST_DEEP) {
                return;
            }
            depth++;
            base[depth] = row.top();
            end[depth] = packEnd;
            blamed[depth] = blamedPlace;
            origin[depth] = originPlace;
            account.reachDepth(depth);
        }

        private boolean isOutermost() {
            return depth == 1;
        }

        private void readItem() {
            first = next;
            int t = beginItem();
            for (int i = 0; i < MOST_BYTES && sortOf(t) == AGAIN_ITEM; i++) {
                t = beginItem();
            }
            if (account.failed()) {
                return;
            }
            place = next - 1;
            start = row.top();
            switch (sortOf(t)) {
                case END_ITEM:
                    readEnd();
                    break;
                case INNER_ITEM:
                    // It gives nothing until its pack has ended.
                    readInner();
                    return;
                case COPY_ITEM:
                    readCopy(t);
                    break;
                default:
                    readRaw(t);
                    break;
            }
            giveAgain();
        }

        /** The byte that an item begins with, behind its step; END's behind a fault. */
        private int beginItem() {
            if (!stand(1) || !account.beginItem(next)) {
                return END_T;
            }
            next++;
            return stream.byteAt(next - 1);
        }

        /** Whether so many bytes more stand in the innermost open pack; if not, that is the fault. */
        private boolean stand(int count) {
            if (count <= end[depth] - next) {
                return true;
            }
            account.fail(isOutermost() ? CUT : LIE, blamed[depth]);
            return false;
        }

        private void readRaw(int t) {
            int count = t;
            if (t == WIDE_T) {
                if (!stand(2)) {
                    return;
                }
                count = stream.byteAt(next) * 256 + stream.byteAt(next + 1);
                next += 2;
            }
            if (!stand(count)) {
                return;
            }
            int allowed = account.ask(count, place, isOutermost());
            for (int i = 0; i < allowed; i++) {
                row.push(stream.byteAt(next + i));
            }
            next += count;
        }

        private void readCopy(int t) {
            if (!stand(1)) {
                return;
            }
            int distance = stream.byteAt(next) + 1;
            if (distance > row.top() - base[depth]) {
                account.fail(BACK, next);
                return;
            }
            next++;
            giveFromBefore(distance, copyCount(t), place);
        }

        private void readInner() {
            if (depth >= MOST_DEEP) {
                account.fail(DEEP, place);
                return;
            }
            if (!stand(1)) {
                return;
            }
            int n = stream.byteAt(next);
            if (n > end[depth] - next - 1) {
                account.fail(LIE, next);
                return;
            }
            next++;
            enterPack(next + n, next - 1, first);
        }

        private void readEnd() {
            if (place > first) {
                account.fail(NOT, place);
                return;
            }
            if (!stand(1)) {
                return;
            }
            if (stream.byteAt(next) != row.sumFrom(base[depth])) {
                account.fail(SUM, next);
                return;
            }
            next++;
            if (isOutermost()) {
                leaveOutermost();
            } else {
                leaveInner();
            }
        }

        private void leaveOutermost() {
            if (next < stream.count()) {
                account.fail(MORE, next);
            }
            depth = 0;
        }

        /** The INNER of the outer pack is the item that is read now, and gives what its pack gave. */
        private void leaveInner() {
            int nPlace = blamed[depth];
            if (next < end[depth]) {
                account.fail(LIE, nPlace);
                return;
            }
            first = origin[depth];
            place = nPlace - 1;
            start = base[depth];
            depth--;
            int count = row.top() - start;
            account.ask(count, place, isOutermost());
            account.release(count);
        }

        /** What was given from start on is given again by each AGAIN ahead of the item, the nearest one first. */
        private void giveAgain() {
            for (int again = place - 1; again >= first && !account.failed(); again--) {
                int block = row.top() - start;
                giveFromBefore(block, block * timesMore(stream.byteAt(again)), again);
            }
        }

        private void giveFromBefore(int distance, int count, int itemPlace) {
            row.copyFromBefore(distance, account.ask(count, itemPlace, isOutermost()));
        }
    }

    /**
     * Asks nothing ahead: takes and gives byte by byte, pack within pack, until
     * that is refused; what is taken or given behind a refusal does nothing.
     */
    private static final class PlainReader {
        private final Stream stream;
        private final Account account;
        private final Row row;
        // Of the innermost open pack: the place behind its last byte, and the place told when one is missing.
        private int end;
        private int blamed;
        private int next;

        PlainReader(Stream read, Account kept) {
            stream = read;
            account = kept;
            row = kept.row;
        }

        void read(int output, int held, int steps) {
            account.start(output, held, steps);
            next = 0;
            end = stream.count();
            blamed = stream.count();
            readPack(1);
            if (next < stream.count()) {
                account.fail(MORE, next);
            }
        }

        private void readPack(int depth) {
            account.reachDepth(depth);
            int base = row.top();
            boolean goesOn = true;
            for (int i = 0; i <= MOST_BYTES && goesOn; i++) {
                goesOn = readItem(depth, base);
            }
        }

        /** Whether another item follows: not behind an END or a fault. */
        private boolean readItem(int depth, int base) {
            int first = next;
            int t = beginItem(depth);
            for (int i = 0; i < MOST_BYTES && sortOf(t) == AGAIN_ITEM; i++) {
                t = beginItem(depth);
            }
            if (account.failed()) {
                return false;
            }
            int place = next - 1;
            int start = row.top();
            switch (sortOf(t)) {
                case END_ITEM:
                    readEnd(first, place, depth, base);
                    return false;
                case COPY_ITEM:
                    readCopy(t, place, depth, base);
                    break;
                case INNER_ITEM:
                    readInner(place, depth);
                    break;
                case WIDE_ITEM:
                    readWide(place, depth);
                    break;
                default:
                    readRaw(t, place, depth);
                    break;
            }
            for (int again = place - 1; again >= first; again--) {
                giveAgain(again, start, depth);
            }
            return !account.failed();
        }

        private int beginItem(int depth) {
            int place = next;
            int t = take(depth);
            if (account.failed() || !account.beginItem(place)) {
                return END_T;
            }
            return t;
        }

        private void readEnd(int first, int place, int depth, int base) {
            if (place > first) {
                account.fail(NOT, place);
            }
            int sum = take(depth);
            if (sum != row.sumFrom(base)) {
                account.fail(SUM, next - 1);
            }
        }

        private void readWide(int place, int depth) {
            int high = take(depth);
            int low = take(depth);
            readRaw(high * 256 + low, place, depth);
        }

        /** All is taken before any of it is given: a byte that is missing comes ahead of the bounds. */
        private void readRaw(int count, int place, int depth) {
            int from = next;
            for (int i = 0; i < count && !account.failed(); i++) {
                take(depth);
            }
            for (int i = 0; i < count && !account.failed(); i++) {
                account.give(stream.byteAt(from + i), place, depth == 1);
            }
        }

        private void readCopy(int t, int place, int depth, int base) {
            int distance = take(depth) + 1;
            if (row.top() - distance < base) {
                account.fail(BACK, next - 1);
            }
            for (int i = 0; i < copyCount(t) && !account.failed(); i++) {
                account.give(row.byteAt(row.top() - distance), place, depth == 1);
            }
        }

        private void readInner(int place, int depth) {
            if (depth >= MOST_DEEP) {
                account.fail(DEEP, place);
            }
            int n = take(depth);
            if (next + n > end) {
                account.fail(LIE, place + 1);
            }
            if (account.failed()) {
                return;
            }
            int outerEnd = end;
            int outerBlamed = blamed;
            int start = row.top();
            end = next + n;
            blamed = place + 1;
            readPack(depth + 1);
            if (next < end) {
                account.fail(LIE, place + 1);
            }
            end = outerEnd;
            blamed = outerBlamed;
            giveInner(start, place, depth);
        }

        private void giveInner(int start, int place, int depth) {
            int count = row.top() - start;
            row.backTo(start);
            for (int i = 0; i < count && !account.failed(); i++) {
                account.give(row.byteAt(start + i), place, depth == 1);
            }
            account.release(count);
        }

        private void giveAgain(int again, int start, int depth) {
            int count = (row.top() - start) * timesMore(stream.byteAt(again));
            for (int i = 0; i < count && !account.failed(); i++) {
                account.give(row.byteAt(start + i), again, depth == 1);
            }
        }

        private int take(int depth) {
            if (account.failed()) {
                return 0;
            }
            if (next >= end) {
                account.fail(depth == 1 ? CUT : LIE, blamed);
                return 0;
            }
            next++;
            return stream.byteAt(next - 1);
        }
    }

    /** Draws a stream by a seed. */
    private static final class Drawer {
        private static final long STRIDE = 0x9E3779B97F4A7C15L;
        private static final long FIRST_FACTOR = 0xBF58476D1CE4E5B9L;
        private static final long SECOND_FACTOR = 0x94D049BB133111EBL;
        private static final int ENOUGH_BYTES = 100;
        private static final int DEEPEST_OUTER = 3;
        private static final int MOST_DISTANCE = 256;

        private final Stream stream;
        private final Row row = new Row();
        private long state;
        private int byteSort;
        private int packSize;

        Drawer(Stream drawn) {
            stream = drawn;
        }

        void drawStream(long seed, int sort, int size) {
            stream.keep(0);
            row.backTo(0);
            state = seed;
            byteSort = sort;
            packSize = size;
            drawPack(1);
        }

        private int pick(int n) {
            state += STRIDE;
            long z = state;
            z = (z ^ z >>> 30) * FIRST_FACTOR;
            z = (z ^ z >>> 27) * SECOND_FACTOR;
            z = z ^ z >>> 31;
            return n > 0 ? (int) ((z >>> 33) % n) : 0;
        }

        private void drawPack(int depth) {
            int base = row.top();
            int most = 1 + pick(packSize);
            for (int i = 0; i < most && stream.count() < ENOUGH_BYTES; i++) {
                drawItem(base, depth);
            }
            drawEnd(base);
        }

        private void drawItem(int base, int depth) {
            int gave = row.top() - base;
            int w = pick(8);
            if ((w == 3 || w == 4) && gave > 0) {
                drawCopy(gave);
            } else if (w == 5) {
                drawAgain();
            } else if (w == 6 && depth <= DEEPEST_OUTER) {
                drawInner(depth);
            } else if (w == 7) {
                drawWide();
            } else {
                drawRaw();
            }
        }

        private void drawCopy(int gave) {
            int more = pick(6);
            int less = pick(Math.min(gave, MOST_DISTANCE));
            stream.append(COPY_T + more);
            stream.append(less);
            row.copyFromBefore(less + 1, LEAST_COPY + more);
        }

        private void drawAgain() {
            int more = pick(4);
            stream.append(AGAIN_T + more);
            int start = row.top();
            drawRaw();
            int block = row.top() - start;
            row.copyFromBefore(block, block * timesMore(AGAIN_T + more));
        }

        private void drawInner(int depth) {
            stream.append(INNER_T);
            int nPlace = stream.count();
            stream.append(0);
            drawPack(depth + 1);
            stream.change(nPlace, stream.count() - nPlace - 1);
        }

        private void drawWide() {
            int count = 1 + pick(5);
            stream.append(WIDE_T);
            stream.append(0);
            stream.append(count);
            drawBytes(count);
        }

        private void drawRaw() {
            int count = 1 + pick(5);
            stream.append(count);
            drawBytes(count);
        }

        private void drawBytes(int count) {
            int same = byteSort == 2 ? pick(256) : 0;
            for (int i = 0; i < count; i++) {
                int v = same;
                if (byteSort == 0) {
                    v = pick(256);
                } else if (byteSort == 1) {
                    v = 97 + pick(3);
                }
                stream.append(v);
                row.push(v);
            }
        }

        private void drawEnd(int base) {
            stream.append(END_T);
            stream.append(row.sumFrom(base));
        }
    }
}
