import java.util.ArrayDeque;
import java.util.ArrayList;
import java.util.Arrays;
import java.util.Deque;
import java.util.List;
import java.util.NoSuchElementException;
import java.util.Random;

/**
 * Long runs of mixed calls, each answer compared with that of a second program, which is written
 * from the document's words with lists and recursion and folds everything anew each time.
 */
public final class ModelTest {
    private static final int RUNS = 3000;
    private static final int CALLS = 512;
    private static final int[] EDGES = {Integer.MIN_VALUE, Integer.MIN_VALUE + 1, -2, -1, 0, 1, 2, 65536,
        Integer.MAX_VALUE - 1, Integer.MAX_VALUE};

    private static int calls = 0;

    public static void main(String[] args) {
        Check check = new Check();
        int full = 0;
        for (int run = 0; run < RUNS; run++) {
            check.begin("run " + run);
            Random random = new Random(run);
            int period = random.nextInt(12) - 1;
            UpcastStreams x = new UpcastStreams(period);
            Model y = new Model(period);
            // Few streams make deep ones; few rules that change let snapshots stay.
            int streams = 1 + random.nextInt(8);
            int learning = random.nextInt(40);
            int adding = 1 + random.nextInt(4);
            calls = 0;
            while (calls < CALLS) {
                someCalls(check, random, x, y, streams, learning, adding);
            }
            full += y.events.size() == 64 ? 1 : 0;
        }
        System.out.println(RUNS + " runs, " + full + " of them up to 64 events");
        check.begin("all runs");
        check.due("some objects were full", full > 100, true);
        check.end();
    }

    private static void someCalls(Check check, Random r, UpcastStreams x, Model y, int streams, int learning,
            int adding) {
        if (r.nextInt(1000) < learning) {
            int[] n = {near(r, 0, 5), near(r, 1, 2), near(r, 0, 6), r.nextInt(4) == 0 ? value(r) : near(r, 0, 5)};
            same(check, "learn", n, () -> {
                x.learn(n[0], n[1], n[2], n[3]);
                return 0;
            }, () -> y.learn(n[0], n[1], n[2], n[3]));
            return;
        }
        int way = r.nextInt(6) - adding;
        if (way < 0) {
            staging(check, r, x, y);
            storing(check, r, x, y, streams);
        } else if (r.nextBoolean()) {
            looking(check, r, x, y, streams);
        } else {
            reading(check, r, x, y);
        }
    }

    private static void staging(Check check, Random r, UpcastStreams x, Model y) {
        int count = r.nextInt(6);
        for (int i = 0; i < count; i++) {
            int[] n = {near(r, 0, 5), near(r, 1, 3), value(r), value(r)};
            if (r.nextInt(8) > 0) {
                n[0] = y.likelyType(r);
            }
            same(check, "stage", n, () -> x.stage(n[0], n[1], n[2], n[3]) ? 1 : 0,
                    () -> y.stage(n[0], n[1], n[2], n[3]));
        }
    }

    private static void storing(Check check, Random r, UpcastStreams x, Model y, int streams) {
        int stream = r.nextInt(4) > 0 ? y.nextStream : stream(r, streams);
        y.nextStream = stream(r, streams);
        int expected = r.nextInt(3) > 0 ? -1 : r.nextInt(3) > 0 ? y.version(stream) : near(r, -2, 64);
        int[] n = {stream, expected};
        same(check, "commit", n, () -> x.commit(n[0], n[1]), () -> y.commit(n[0], n[1]));
        if (r.nextInt(3) > 0 && y.batch.size() > 0) {
            same(check, "unstage", new int[0], () -> x.unstage(), () -> y.unstage());
        }
    }

    private static void looking(Check check, Random r, UpcastStreams x, Model y, int streams) {
        int s = stream(r, streams);
        int version = near(r, 0, Math.max(0, y.version(s)));
        int p = near(r, 0, y.events.size());
        int part = near(r, 0, 5);
        int k = near(r, 0, 1);
        same(check, "load", new int[] {s, version}, () -> x.load(s, version), () -> y.load(s, version));
        for (int i = 0; i < 3; i++) {
            int what = near(r, 0, 7);
            same(check, "field", new int[] {what}, () -> x.field(what), () -> y.field(what));
        }
        same(check, "stored", new int[] {p, part}, () -> x.stored(p, part), () -> y.stored(p, part));
        same(check, "comes", new int[] {p}, () -> x.comes(p), () -> y.comes(p));
        same(check, "snapshot", new int[] {s, k}, () -> x.snapshot(s, k), () -> y.snapshot(s, k));
        same(check, "version", new int[] {s}, () -> x.version(s), () -> y.version(s));
        same(check, "total", new int[0], () -> x.total(), () -> y.events.size());
    }

    private static void reading(Check check, Random r, UpcastStreams x, Model y) {
        int reader = near(r, 0, 3);
        int n = near(r, 1, 4);
        int i = near(r, 0, 15);
        int part = near(r, 0, 4);
        switch (r.nextInt(6)) {
            case 0:
                int[] f = {reader, r.nextInt() | r.nextInt(), r.nextInt() | r.nextInt(), near(r, 0, y.events.size())};
                same(check, "follow", f, () -> {
                    x.follow(f[0], f[1], f[2], f[3]);
                    return 0;
                }, () -> y.follow(f[0], f[1], f[2], f[3]));
                break;
            case 1:
                same(check, "done", new int[] {reader}, () -> x.done(reader), () -> y.done(reader));
                break;
            case 2:
            case 3:
                same(check, "poll", new int[] {reader, n}, () -> x.poll(reader, n), () -> y.poll(reader, n));
                break;
            default:
                same(check, "cursor", new int[] {reader}, () -> x.cursor(reader), () -> y.cursor(reader));
                break;
        }
        same(check, "hand", new int[] {i, part}, () -> x.hand(i, part), () -> y.hand(i, part));
        same(check, "hand", new int[] {0, part}, () -> x.hand(0, part), () -> y.hand(0, part));
    }

    private static void same(Check check, String name, int[] numbers, Check.Call got, Check.Call want) {
        // An object's 512th call is its last one of which anything is promised.
        if (calls >= CALLS) {
            return;
        }
        calls++;
        check.dueText(name + Arrays.toString(numbers), Check.told(got), Check.told(want));
    }

    /** Mostly from low to high, sometimes just outside, seldom far outside. */
    private static int near(Random r, int low, int high) {
        int way = r.nextInt(60);
        if (way == 0) {
            return EDGES[r.nextInt(EDGES.length)];
        }
        if (way < 4) {
            return r.nextBoolean() ? low - 1 : high + 1;
        }
        return low + r.nextInt(high - low + 1);
    }

    private static int value(Random r) {
        int way = r.nextInt(10);
        return way == 0 ? EDGES[r.nextInt(EDGES.length)] : way == 1 ? r.nextInt() : r.nextInt(100) - 5;
    }

    private static int stream(Random r, int streams) {
        return r.nextInt(40) == 0 ? near(r, 0, 7) : r.nextInt(streams);
    }

    private record Event(int stream, int number, int type, int form, int a, int b) {
        Event up(int newType, int newA, int newB) {
            return new Event(stream, number, newType, form + 1, newA, newB);
        }
    }

    private record Taken(int position, Event event) {
    }

    /** open, frozen, LIMIT, BALANCE, TOP, MOVES, ODD, CHECK. */
    private static boolean fold(long[] state, Event e) {
        boolean active = state[0] == 1 && state[1] == 0;
        boolean fits = e.type == 0 ? state[0] == 0
                : e.type == 1 ? active && e.a >= 0
                : e.type == 2 ? active && e.a >= 0 && state[3] + state[2] >= e.a
                : e.type == 3 ? active
                : e.type == 4 ? state[1] == 1
                : active && state[3] == 0;
        if (!fits) {
            state[6]++;
            return false;
        }
        if (e.type == 0) {
            state[0] = 1;
            state[2] = e.a;
            state[3] = 0;
        } else if (e.type == 5) {
            state[0] = 0;
        } else if (e.type == 3 || e.type == 4) {
            state[1] = e.type == 3 ? 1 : 0;
        } else {
            state[3] += e.type == 1 ? (long) e.a : -(long) e.a;
        }
        state[4] = state[3] > state[4] ? state[3] : state[4];
        state[5] += 1;
        long sevenA = 7 * (long) e.a;
        state[7] = (state[7] * 31 + e.type + sevenA) ^ (long) e.b;
        return true;
    }

    private static final class Model {
        final int period;
        final List<Event> events = new ArrayList<>();
        final List<Event> batch = new ArrayList<>();
        final List<Taken> taken = new ArrayList<>();
        final int[][] kinds = new int[6][3];
        final int[][] ks = new int[6][3];
        final List<Deque<Integer>> snapshots = new ArrayList<>();
        final int[][] readers = new int[4][4];
        long[] loaded = new long[8];
        int nextStream = 0;

        Model(int period) {
            this.period = period < 1 ? 1 : period > 8 ? 8 : period;
            for (int s = 0; s < 8; s++) {
                snapshots.add(new ArrayDeque<>());
            }
        }

        int stage(int type, int form, int a, int b) {
            if (batch.size() == 4 || type < 0 || type > 5 || form < 1 || form > 3) {
                return 0;
            }
            batch.add(new Event(-1, -1, type, form, a, b));
            return 1;
        }

        int unstage() {
            int had = batch.size();
            batch.clear();
            return had;
        }

        int commit(int stream, int expected) {
            if (stream < 0 || stream > 7 || batch.isEmpty()) {
                throw new IllegalArgumentException();
            }
            int before = version(stream);
            if (expected != -1 && expected != before) {
                throw new IllegalStateException();
            }
            if (events.size() + batch.size() > 64) {
                throw new UnsupportedOperationException();
            }
            long[] state = stateAt(stream, before);
            for (int i = 0; i < batch.size(); i++) {
                for (Event e : comingOf(batch.get(i))) {
                    if (!fold(state, e)) {
                        return -1 - i;
                    }
                }
            }
            int after = before;
            for (Event e : batch) {
                events.add(new Event(stream, after++, e.type, e.form, e.a, e.b));
            }
            batch.clear();
            if (after / period > before / period) {
                snapshots.get(stream).addFirst(after);
                while (snapshots.get(stream).size() > 2) {
                    snapshots.get(stream).removeLast();
                }
            }
            return after;
        }

        int version(int stream) {
            if (stream < 0 || stream > 7) {
                return -1;
            }
            return (int) events.stream().filter(e -> e.stream == stream).count();
        }

        int stored(int p, int part) {
            if (p < 0 || p >= events.size() || part < 0 || part > 5) {
                throw new NoSuchElementException();
            }
            Event e = events.get(p);
            return new int[] {e.stream, e.number, e.type, e.form, e.a, e.b}[part];
        }

        int learn(int type, int form, int kind, int k) {
            boolean wrong = type < 0 || type > 5 || form < 1 || form > 2 || kind < 0 || kind > 6;
            if (wrong || kind == 5 && (k < 0 || k > 5)) {
                throw new IllegalArgumentException();
            }
            kinds[type][form] = kind;
            ks[type][form] = k;
            snapshots.forEach(Deque::clear);
            batch.clear();
            taken.clear();
            return 0;
        }

        List<Event> comingOf(Event e) {
            if (e.form == 3) {
                return List.of(e);
            }
            int k = ks[e.type][e.form];
            int half = (int) Math.floor(e.a / 2.0);
            List<Event> next = switch (kinds[e.type][e.form]) {
                case 0 -> List.of(e.up(e.type, e.a, e.b));
                case 1 -> List.of(e.up(e.type, e.b, e.a));
                case 2 -> List.of(e.up(e.type, (int) ((long) e.a * k), e.b));
                case 3 -> List.of(e.up(e.type, e.a, k));
                case 4 -> List.of(e.up(e.type, half, e.b), e.up(e.type, e.a - half, e.b));
                case 5 -> List.of(e.up(k, e.a, e.b));
                default -> List.of();
            };
            List<Event> coming = new ArrayList<>();
            next.forEach(n -> coming.addAll(comingOf(n)));
            return coming;
        }

        int comes(int p) {
            if (p < 0 || p >= events.size()) {
                throw new NoSuchElementException();
            }
            return comingOf(events.get(p)).size();
        }

        long[] stateAt(int stream, int version) {
            long[] state = new long[8];
            for (Event e : events) {
                if (e.stream == stream && e.number < version) {
                    comingOf(e).forEach(c -> fold(state, c));
                }
            }
            return state;
        }

        int load(int stream, int version) {
            if (stream < 0 || stream > 7 || version < 0 || version > version(stream)) {
                throw new IllegalArgumentException();
            }
            loaded = stateAt(stream, version);
            int begin = 0;
            for (int v : snapshots.get(stream)) {
                begin = v <= version ? Math.max(begin, v) : begin;
            }
            return version - begin;
        }

        long field(int what) {
            return what < 0 || what > 7 ? -1 : loaded[what];
        }

        int snapshot(int stream, int k) {
            if (stream < 0 || stream > 7 || k < 0 || k >= snapshots.get(stream).size()) {
                return -1;
            }
            return k == 0 ? snapshots.get(stream).peekFirst() : snapshots.get(stream).peekLast();
        }

        private static void needReader(int reader) {
            if (reader < 0 || reader > 3) {
                throw new IllegalArgumentException();
            }
        }

        int follow(int reader, int streams, int types, int from) {
            needReader(reader);
            if (from < 0 || from > events.size()) {
                throw new IllegalArgumentException();
            }
            readers[reader] = new int[] {from, from, streams & 255, types & 63};
            return 0;
        }

        int poll(int reader, int n) {
            needReader(reader);
            if (n < 1 || n > 4) {
                throw new IllegalArgumentException();
            }
            int[] r = readers[reader];
            List<Integer> positions = new ArrayList<>();
            for (int p = r[0]; p < events.size(); p++) {
                boolean wanted = (r[2] & 1 << events.get(p).stream) != 0;
                if (wanted && comingOf(events.get(p)).stream().anyMatch(e -> (r[3] & 1 << e.type) != 0)) {
                    positions.add(p);
                }
            }
            r[1] = positions.size() < n ? events.size() : positions.get(n - 1) + 1;
            taken.clear();
            for (int p : positions.subList(0, Math.min(n, positions.size()))) {
                for (Event e : comingOf(events.get(p))) {
                    if ((r[3] & 1 << e.type) != 0) {
                        taken.add(new Taken(p, e));
                    }
                }
            }
            return taken.size();
        }

        int done(int reader) {
            needReader(reader);
            int before = readers[reader][0];
            readers[reader][0] = readers[reader][1];
            return readers[reader][0] - before;
        }

        int cursor(int reader) {
            return reader < 0 || reader > 3 ? -1 : readers[reader][0];
        }

        int hand(int i, int part) {
            if (i < 0 || i >= taken.size() || part < 0 || part > 4) {
                throw new NoSuchElementException();
            }
            Event e = taken.get(i).event;
            return new int[] {taken.get(i).position, e.stream, e.type, e.a, e.b}[part];
        }

        /** A type that is likely to fit the stream that is stored to next, so that streams grow. */
        int likelyType(Random r) {
            if (nextStream < 0 || nextStream > 7) {
                return 0;
            }
            long[] state = stateAt(nextStream, version(nextStream));
            batch.forEach(e -> comingOf(e).forEach(c -> fold(state, c)));
            return state[0] == 0 ? 0 : state[1] == 1 ? 4 : r.nextInt(20) == 0 ? 5 : 1 + r.nextInt(3);
        }
    }
}
