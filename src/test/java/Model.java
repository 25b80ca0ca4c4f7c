import java.util.ArrayList;
import java.util.List;

/**
 * The document once more, in the plainest Java: lists, recursion, an exception for a fault.
 * It is what the program is compared with, so nothing of it comes from there.
 */
final class Model {
    static final int NONE = -1, BAD = -2, FULL = -3, NO = -4;

    private static final class Fault extends Exception {
        private static final long serialVersionUID = 1L;
        final int kind;
        final int place;

        Fault(int kind, int place) {
            super(null, null, false, false);
            this.kind = kind;
            this.place = place;
        }
    }

    /** One opening of a stream. */
    private static final class Opening {
        final List<Integer> stream;
        final int output;
        final int held;
        final int steps;
        final List<List<Integer>> packs = new ArrayList<>();
        final List<Integer> places = new ArrayList<>();
        List<Integer> outermost = new ArrayList<>();
        int kind = NONE;
        int place = NONE;
        int stepsDone;
        int heldMost;
        int deepest;
        int items;
        int next;

        Opening(List<Integer> stream, int output, int held, int steps) {
            this.stream = stream;
            this.output = output;
            this.held = held;
            this.steps = steps;
            try {
                pack(stream.size(), stream.size());
                if (next < stream.size()) {
                    throw new Fault(5, next);
                }
            } catch (Fault fault) {
                kind = fault.kind;
                place = fault.place;
            }
        }

        int answer() {
            return kind == NONE ? outermost.size() : -10 - kind;
        }

        /** A pack up to that end; a missing byte is blamed on that place. */
        private List<Integer> pack(int end, int blamed) throws Fault {
            List<Integer> mine = new ArrayList<>();
            if (packs.isEmpty()) {
                outermost = mine;
            }
            packs.add(mine);
            deepest = Math.max(deepest, packs.size());
            while (item(mine, end, blamed, false)) {
                continue;
            }
            return mine;
        }

        private void need(int count, int end, int blamed) throws Fault {
            if (next + count > end) {
                throw new Fault(packs.size() == 1 ? 1 : 2, blamed);
            }
        }

        private void give(int v, List<Integer> mine, int at) throws Fault {
            if (stepsDone + 1 > steps) {
                throw new Fault(9, at);
            }
            int all = 1;
            for (List<Integer> pack : packs) {
                all += pack.size();
            }
            if (all > held) {
                throw new Fault(10, at);
            }
            if (mine == outermost && mine.size() + 1 > output) {
                throw new Fault(8, at);
            }
            stepsDone++;
            heldMost = Math.max(heldMost, all);
            mine.add(v);
        }

        /** Whether it was no END. */
        private boolean item(List<Integer> mine, int end, int blamed, boolean behindAgain) throws Fault {
            need(1, end, blamed);
            int at = next;
            int t = stream.get(next);
            if (stepsDone + 1 > steps) {
                throw new Fault(9, at);
            }
            stepsDone++;
            items++;
            places.add(at);
            next++;
            if (t == 0) {
                if (behindAgain) {
                    throw new Fault(7, at);
                }
                need(1, end, blamed);
                int sum = 0;
                for (int v : mine) {
                    sum += v;
                }
                if (stream.get(next) != sum % 256) {
                    throw new Fault(4, next);
                }
                next++;
                return false;
            }
            if (t <= 63) {
                raw(t, mine, end, blamed, at);
            } else if (t == 255) {
                need(2, end, blamed);
                int count = stream.get(next) * 256 + stream.get(next + 1);
                next += 2;
                raw(count, mine, end, blamed, at);
            } else if (t <= 127) {
                need(1, end, blamed);
                int distance = stream.get(next) + 1;
                if (distance > mine.size()) {
                    throw new Fault(3, next);
                }
                next++;
                for (int i = 0; i < t - 62; i++) {
                    give(mine.get(mine.size() - distance), mine, at);
                }
            } else if (t <= 191) {
                int start = mine.size();
                item(mine, end, blamed, true);
                List<Integer> block = new ArrayList<>(mine.subList(start, mine.size()));
                for (int time = 2; time <= t - 126; time++) {
                    for (int v : block) {
                        give(v, mine, at);
                    }
                }
            } else {
                inner(mine, end, blamed, at);
            }
            return true;
        }

        private void raw(int count, List<Integer> mine, int end, int blamed, int at) throws Fault {
            need(count, end, blamed);
            for (int i = 0; i < count; i++) {
                give(stream.get(next + i), mine, at);
            }
            next += count;
        }

        private void inner(List<Integer> mine, int end, int blamed, int at) throws Fault {
            if (packs.size() == 6) {
                throw new Fault(6, at);
            }
            need(1, end, blamed);
            int nPlace = next;
            int n = stream.get(next);
            next++;
            if (next + n > end) {
                throw new Fault(2, nPlace);
            }
            int innerEnd = next + n;
            List<Integer> gave = pack(innerEnd, nPlace);
            if (next != innerEnd) {
                throw new Fault(2, nPlace);
            }
            for (int v : gave) {
                give(v, mine, at);
            }
            packs.remove(packs.size() - 1);
        }
    }

    List<Integer> stream = new ArrayList<>();
    private Opening latest;
    private long seed;
    private long draws;

    private static boolean within(int v, int least, int most) {
        return v >= least && v <= most;
    }

    private static boolean bounds(int output, int held, int steps) {
        return within(output, 0, 400) && within(held, 0, 800) && within(steps, 0, 1500);
    }

    int put(int v) {
        if (!within(v, 0, 255)) {
            return BAD;
        }
        if (stream.size() == 160) {
            return FULL;
        }
        stream.add(v);
        return stream.size();
    }

    int cut(int n) {
        int before = stream.size();
        if (!within(n, 0, before)) {
            return BAD;
        }
        stream = new ArrayList<>(stream.subList(0, n));
        return before - n;
    }

    int poke(int place, int v) {
        return within(place, 0, stream.size() - 1) && within(v, 0, 255) ? stream.set(place, v) : BAD;
    }

    int at(int i) {
        return within(i, 0, stream.size() - 1) ? stream.get(i) : NONE;
    }

    int length() {
        return stream.size();
    }

    int draw(long by, int sort, int size) {
        if (!within(sort, 0, 2) || !within(size, 1, 5)) {
            return BAD;
        }
        seed = by;
        draws = 0;
        stream = new ArrayList<>();
        drawnPack(sort, size, 1);
        return stream.size();
    }

    private int pick(int n) {
        long k = draws++;
        long z = seed + (k + 1) * 0x9E3779B97F4A7C15L;
        z = (z ^ (z >>> 30)) * 0xBF58476D1CE4E5B9L;
        z = (z ^ (z >>> 27)) * 0x94D049BB133111EBL;
        z = z ^ (z >>> 31);
        return (int) ((z >>> 33) % n);
    }

    private List<Integer> drawnPack(int sort, int size, int deep) {
        List<Integer> gave = new ArrayList<>();
        int c = 1 + pick(size);
        for (int i = 0; i < c && stream.size() < 100; i++) {
            int w = pick(8);
            if ((w == 3 || w == 4) && !gave.isEmpty()) {
                int count = pick(6) + 2;
                int distance = pick(Math.min(256, gave.size())) + 1;
                stream.add(count + 62);
                stream.add(distance - 1);
                for (int j = 0; j < count; j++) {
                    gave.add(gave.get(gave.size() - distance));
                }
            } else if (w == 5) {
                int times = 2 + pick(4);
                stream.add(times + 126);
                List<Integer> block = drawnRaw(sort, false);
                for (int j = 0; j < times; j++) {
                    gave.addAll(block);
                }
            } else if (w == 6 && deep <= 3) {
                stream.add(192);
                stream.add(0);
                int from = stream.size();
                gave.addAll(drawnPack(sort, size, deep + 1));
                stream.set(from - 1, stream.size() - from);
            } else {
                gave.addAll(drawnRaw(sort, w == 7));
            }
        }
        stream.add(0);
        stream.add(gave.stream().mapToInt(v -> v).sum() % 256);
        return gave;
    }

    private List<Integer> drawnRaw(int sort, boolean wide) {
        int count = 1 + pick(5);
        List<Integer> block = new ArrayList<>();
        for (int j = 0; j < count; j++) {
            block.add(sort == 0 ? pick(256) : sort == 1 ? 97 + pick(3) : j == 0 ? pick(256) : block.get(0));
        }
        if (wide) {
            stream.add(255);
            stream.add(0);
        }
        stream.add(count);
        stream.addAll(block);
        return block;
    }

    int bomb(int levels, int times, int b) {
        if (!within(levels, 0, 12) || !within(times, 2, 65) || !within(b, 0, 255)) {
            return BAD;
        }
        stream = bombOf(levels, times, b);
        return stream.size();
    }

    private static List<Integer> bombOf(int levels, int times, int b) {
        List<Integer> made = new ArrayList<>();
        if (levels == 0) {
            made.addAll(List.of(1, b));
        } else {
            List<Integer> inside = bombOf(levels - 1, times, b);
            made.addAll(List.of(126 + times, 192, inside.size()));
            made.addAll(inside);
        }
        java.math.BigInteger sum = java.math.BigInteger.valueOf(times).pow(levels)
            .multiply(java.math.BigInteger.valueOf(b));
        made.addAll(List.of(0, sum.mod(java.math.BigInteger.valueOf(256)).intValue()));
        return made;
    }

    int plant(int what) {
        if (!within(what, 1, 7) || what == 6) {
            return BAD;
        }
        if (what == 5 && stream.size() == 160) {
            return FULL;
        }
        Opening before = new Opening(stream, 400, 800, 1500);
        if (before.kind != NONE) {
            return NO;
        }
        int last = stream.size() - 1;
        if (what == 1) {
            stream.remove(last);
        } else if (what == 4) {
            stream.set(last, stream.get(last) ^ 1);
        } else if (what == 5) {
            stream.add(7);
        } else {
            int least = what == 2 ? 192 : what == 3 ? 64 : 128;
            int most = what == 2 ? 254 : what == 3 ? 127 : 191;
            int place = before.places.stream().mapToInt(p -> p)
                .filter(p -> within(stream.get(p), least, most)).min().orElse(NONE);
            if (place == NONE) {
                return NO;
            }
            stream.set(place + 1, what == 2 ? (stream.get(place + 1) + 1) % 256 : what == 3 ? 255 : 0);
        }
        return Math.max(0, new Opening(stream, 400, 800, 1500).kind);
    }

    int open(int output, int held, int steps) {
        if (!bounds(output, held, steps)) {
            return BAD;
        }
        latest = new Opening(new ArrayList<>(stream), output, held, steps);
        return latest.answer();
    }

    int told(int what) {
        if (!within(what, 0, 6)) {
            return BAD;
        }
        if (latest == null) {
            return what < 2 ? NONE : 0;
        }
        return new int[] {latest.kind, latest.place, latest.stepsDone, latest.heldMost,
            latest.outermost.size(), latest.deepest, latest.items}[what];
    }

    int given(int i) {
        return latest != null && within(i, 0, latest.outermost.size() - 1) ? latest.outermost.get(i) : NONE;
    }

    int shorter(int output, int held, int steps) {
        if (!bounds(output, held, steps)) {
            return BAD;
        }
        int before = stream.size();
        int verdict = new Opening(stream, output, held, steps).kind;
        int place = 0;
        while (place < stream.size()) {
            List<Integer> without = new ArrayList<>(stream);
            without.remove(place);
            if (new Opening(without, output, held, steps).kind == verdict) {
                stream = without;
            } else {
                place++;
            }
        }
        return before - stream.size();
    }
}
