import java.util.NoSuchElementException;

/**
 * Streams of events that are only ever added to, folded into states, and followed by readers.
 * Everything an object needs is made in its constructor and used again, so that no call but one
 * that throws makes anything.
 */
public final class UpcastStreams {
    public static final int ANY = -1;
    public static final int NONE = -1;

    private static final int STREAMS = 8;
    private static final int READERS = 4;
    private static final int TYPES = 6;
    private static final int FIRST_FORM = 1;
    private static final int LATEST_FORM = 3;
    private static final int MAX_PERIOD = 8;
    private static final int MAX_STORED = 64;
    private static final int MAX_BATCH = 4;
    private static final int MAX_POLL = 4;
    private static final int MAX_COMING = 4;
    private static final int MAX_HAND = MAX_POLL * MAX_COMING;
    private static final int STORED_PARTS = 6;
    private static final int HAND_PARTS = 5;

    private static final int SAME = 0;
    private static final int SWAP = 1;
    private static final int TIMES = 2;
    private static final int SET_B = 3;
    private static final int SPLIT = 4;
    private static final int RETYPE = 5;
    private static final int DROP = 6;

    private static final int OPENING = 0;
    private static final int PAYING_IN = 1;
    private static final int PAYING_OUT = 2;
    private static final int FREEZING = 3;
    private static final int THAWING = 4;
    private static final int CLOSING = 5;

    private final int period;
    private final Row batch;
    private final Log log;
    private final Rules rules;
    private final Shelf[] shelves;
    private final Reader[] readers;
    private final Hand taken;
    private final State loaded;
    private final State trial;

    public UpcastStreams(int period) {
        this.period = Math.max(1, Math.min(MAX_PERIOD, period));
        batch = new Row(MAX_BATCH);
        log = new Log();
        rules = new Rules();
        shelves = new Shelf[STREAMS];
        for (int s = 0; s < STREAMS; s++) {
            shelves[s] = new Shelf();
        }
        readers = new Reader[READERS];
        for (int r = 0; r < READERS; r++) {
            readers[r] = new Reader();
        }
        taken = new Hand();
        loaded = new State();
        trial = new State();
    }

    public boolean stage(int type, int form, int a, int b) {
        if (batch.size >= MAX_BATCH || !isType(type) || form < FIRST_FORM || form > LATEST_FORM) {
            return false;
        }
        batch.put(type, form, a, b);
        return true;
    }

    public int unstage() {
        int had = batch.size;
        batch.clear();
        return had;
    }

    public int commit(int stream, int expected)
            throws IllegalArgumentException, IllegalStateException, UnsupportedOperationException {
        if (!isStream(stream) || batch.size == 0) {
            throw new IllegalArgumentException();
        }
        int before = log.versions[stream];
        if (expected != ANY && expected != before) {
            throw new IllegalStateException();
        }
        if (log.events.size + batch.size > MAX_STORED) {
            throw new UnsupportedOperationException();
        }
        int misfit = tryBatch(stream);
        if (misfit != NONE) {
            return -1 - misfit;
        }
        storeBatch(stream);
        int after = log.versions[stream];
        if (after / period > before / period) {
            shelves[stream].keep(after, trial);
        }
        return after;
    }

    public int version(int stream) {
        return isStream(stream) ? log.versions[stream] : NONE;
    }

    public int total() {
        return log.events.size;
    }

    public int stored(int p, int part) throws NoSuchElementException {
        if (!isStored(p) || part < 0 || part >= STORED_PARTS) {
            throw new NoSuchElementException();
        }
        return log.partOf(p, part);
    }

    public void learn(int type, int form, int kind, int k) throws IllegalArgumentException {
        if (!isType(type) || form < FIRST_FORM || form >= LATEST_FORM) {
            throw new IllegalArgumentException();
        }
        if (kind < SAME || kind > DROP || (kind == RETYPE && !isType(k))) {
            throw new IllegalArgumentException();
        }
        rules.change(type, form, kind, k);
        for (int s = 0; s < STREAMS; s++) {
            shelves[s].clear();
        }
        batch.clear();
        taken.events.clear();
    }

    public int comes(int p) throws NoSuchElementException {
        if (!isStored(p)) {
            throw new NoSuchElementException();
        }
        return rules.bringUp(log.events, p).size;
    }

    public int load(int stream, int version) throws IllegalArgumentException {
        if (!isStream(stream) || version < 0 || version > log.versions[stream]) {
            throw new IllegalArgumentException();
        }
        return loadInto(loaded, stream, version);
    }

    public long field(int what) {
        return loaded.partOf(what);
    }

    public int snapshot(int stream, int k) {
        return isStream(stream) ? shelves[stream].versionOf(k) : NONE;
    }

    public void follow(int reader, int streams, int types, int from) throws IllegalArgumentException {
        if (!isReader(reader) || from < 0 || from > log.events.size) {
            throw new IllegalArgumentException();
        }
        readers[reader].begin(streams, types, from);
    }

    public int poll(int reader, int n) throws IllegalArgumentException {
        if (!isReader(reader) || n < 1 || n > MAX_POLL) {
            throw new IllegalArgumentException();
        }
        Reader r = readers[reader];
        taken.events.clear();
        int found = 0;
        int p = r.cursor;
        while (p < log.events.size && found < n) {
            if (r.wantsStream(log.streams[p]) && takeFrom(p, r) > 0) {
                found++;
            }
            p++;
        }
        // p is behind the n-th one here, or behind all that is stored if there are fewer.
        r.mark = p;
        return taken.events.size;
    }

    public int done(int reader) throws IllegalArgumentException {
        if (!isReader(reader)) {
            throw new IllegalArgumentException();
        }
        return readers[reader].moveToMark();
    }

    public int cursor(int reader) {
        return isReader(reader) ? readers[reader].cursor : NONE;
    }

    public int hand(int i, int part) throws NoSuchElementException {
        if (i < 0 || i >= taken.events.size || part < 0 || part >= HAND_PARTS) {
            throw new NoSuchElementException();
        }
        return taken.partOf(i, part);
    }

    private static boolean isType(int type) {
        return type >= 0 && type < TYPES;
    }

    private static boolean isStream(int stream) {
        return stream >= 0 && stream < STREAMS;
    }

    private static boolean isReader(int reader) {
        return reader >= 0 && reader < READERS;
    }

    private boolean isStored(int p) {
        return p >= 0 && p < log.events.size;
    }

    /** Folds the batch into the trial state; answers the first event that does not fit, or NONE. */
    private int tryBatch(int stream) {
        loadInto(trial, stream, log.versions[stream]);
        // The stream itself may hold odd ones since a rule changed: only new ones count here.
        long oddBefore = trial.odd;
        for (int i = 0; i < batch.size; i++) {
            trial.fold(rules.bringUp(batch, i));
            if (trial.odd != oddBefore) {
                return i;
            }
        }
        return NONE;
    }

    private void storeBatch(int stream) {
        for (int i = 0; i < batch.size; i++) {
            log.append(stream, batch, i);
        }
        batch.clear();
    }

    /** Answers how many stored events were folded. */
    private int loadInto(State state, int stream, int version) {
        int from = shelves[stream].restore(state, version);
        for (int p = 0; p < log.events.size; p++) {
            if (log.streams[p] == stream && log.numbers[p] >= from && log.numbers[p] < version) {
                state.fold(rules.bringUp(log.events, p));
            }
        }
        return version - from;
    }

    /** Takes what the reader wants of a stored event into the hand; answers how many that were. */
    private int takeFrom(int p, Reader reader) {
        int before = taken.events.size;
        Row coming = rules.bringUp(log.events, p);
        for (int i = 0; i < coming.size; i++) {
            if (reader.wantsType(coming.types[i])) {
                taken.take(p, log.streams[p], coming, i);
            }
        }
        return taken.events.size - before;
    }

    /** Events one behind the other, in a room that does not grow. */
    private static final class Row {
        final int[] types;
        final int[] forms;
        final int[] as;
        final int[] bs;
        int size;

        Row(int room) {
            types = new int[room];
            forms = new int[room];
            as = new int[room];
            bs = new int[room];
        }

        void clear() {
            size = 0;
        }

        void put(int type, int form, int a, int b) {
            if (size >= types.length) {
                return;
            }
            types[size] = type;
            forms[size] = form;
            as[size] = a;
            bs[size] = b;
            size++;
        }

        void putFrom(Row other, int i) {
            put(other.types[i], other.forms[i], other.as[i], other.bs[i]);
        }
    }

    /** All stored events by position, and the versions of the streams. */
    private static final class Log {
        final Row events = new Row(MAX_STORED);
        final int[] streams = new int[MAX_STORED];
        final int[] numbers = new int[MAX_STORED];
        final int[] versions = new int[STREAMS];

        void append(int stream, Row from, int i) {
            int p = events.size;
            if (p >= MAX_STORED) {
                return;
            }
            events.putFrom(from, i);
            streams[p] = stream;
            numbers[p] = versions[stream];
            versions[stream]++;
        }

        int partOf(int p, int part) {
            switch (part) {
                case 0:
                    return streams[p];
                case 1:
                    return numbers[p];
                case 2:
                    return events.types[p];
                case 3:
                    return events.forms[p];
                case 4:
                    return events.as[p];
                default:
                    return events.bs[p];
            }
        }
    }

    /** The events of the latest poll, with what they came of. */
    private static final class Hand {
        final Row events = new Row(MAX_HAND);
        final int[] positions = new int[MAX_HAND];
        final int[] streams = new int[MAX_HAND];

        void take(int position, int stream, Row from, int i) {
            int at = events.size;
            if (at >= MAX_HAND) {
                return;
            }
            events.putFrom(from, i);
            positions[at] = position;
            streams[at] = stream;
        }

        int partOf(int i, int part) {
            switch (part) {
                case 0:
                    return positions[i];
                case 1:
                    return streams[i];
                case 2:
                    return events.types[i];
                case 3:
                    return events.as[i];
                default:
                    return events.bs[i];
            }
        }
    }

    /** How events of the older forms become events of the next one. */
    private static final class Rules {
        private final int[] kinds = new int[TYPES * (LATEST_FORM - FIRST_FORM)];
        private final int[] ks = new int[TYPES * (LATEST_FORM - FIRST_FORM)];
        private Row coming = new Row(MAX_COMING);
        private Row older = new Row(MAX_COMING);

        void change(int type, int form, int kind, int k) {
            int rule = ruleOf(type, form);
            kinds[rule] = kind;
            ks[rule] = k;
        }

        /** Answers what comes of event i of a row; it stands there until the next bringing up. */
        Row bringUp(Row from, int i) {
            coming.clear();
            coming.putFrom(from, i);
            for (int form = from.forms[i]; form < LATEST_FORM; form++) {
                stepAll();
            }
            return coming;
        }

        private static int ruleOf(int type, int form) {
            return type * (LATEST_FORM - FIRST_FORM) + form - FIRST_FORM;
        }

        private void stepAll() {
            Row free = older;
            older = coming;
            coming = free;
            coming.clear();
            for (int i = 0; i < older.size; i++) {
                step(older.types[i], older.forms[i], older.as[i], older.bs[i]);
            }
        }

        private void step(int type, int form, int a, int b) {
            int rule = ruleOf(type, form);
            int k = ks[rule];
            int next = form + 1;
            switch (kinds[rule]) {
                case SAME:
                    coming.put(type, next, a, b);
                    break;
                case SWAP:
                    coming.put(type, next, b, a);
                    break;
                case TIMES:
                    coming.put(type, next, a * k, b);
                    break;
                case SET_B:
                    coming.put(type, next, a, k);
                    break;
                case SPLIT:
                    coming.put(type, next, Math.floorDiv(a, 2), b);
                    coming.put(type, next, a - Math.floorDiv(a, 2), b);
                    break;
                case RETYPE:
                    coming.put(k, next, a, b);
                    break;
                case DROP:
                default:
                    break;
            }
        }
    }

    /** What is folded out of events of the latest form. */
    private static final class State {
        boolean open;
        boolean frozen;
        long limit;
        long balance;
        long top;
        long moves;
        long odd;
        long check;

        void clear() {
            open = false;
            frozen = false;
            limit = 0;
            balance = 0;
            top = 0;
            moves = 0;
            odd = 0;
            check = 0;
        }

        void become(State other) {
            open = other.open;
            frozen = other.frozen;
            limit = other.limit;
            balance = other.balance;
            top = other.top;
            moves = other.moves;
            odd = other.odd;
            check = other.check;
        }

        void fold(Row coming) {
            for (int i = 0; i < coming.size; i++) {
                if (fits(coming.types[i], coming.as[i])) {
                    change(coming.types[i], coming.as[i]);
                    count(coming.types[i], coming.as[i], coming.bs[i]);
                } else {
                    odd++;
                }
            }
        }

        private boolean fits(int type, int a) {
            switch (type) {
                case OPENING:
                    return !open;
                case PAYING_IN:
                    return open && !frozen && a >= 0;
                case PAYING_OUT:
                    return open && !frozen && a >= 0 && balance + limit >= a;
                case FREEZING:
                    return open && !frozen;
                case THAWING:
                    return frozen;
                case CLOSING:
                    return open && !frozen && balance == 0;
                default:
                    return false;
            }
        }

        private void change(int type, int a) {
            switch (type) {
                case OPENING:
                    open = true;
                    limit = a;
                    balance = 0;
                    break;
                case PAYING_IN:
                    balance += a;
                    break;
                case PAYING_OUT:
                    balance -= a;
                    break;
                case FREEZING:
                    frozen = true;
                    break;
                case THAWING:
                    frozen = false;
                    break;
                case CLOSING:
                    open = false;
                    break;
                default:
                    break;
            }
        }

        private void count(int type, int a, int b) {
            top = Math.max(top, balance);
            moves++;
            check = (check * 31 + type + 7L * a) ^ b;
        }

        long partOf(int what) {
            switch (what) {
                case 0:
                    return open ? 1 : 0;
                case 1:
                    return frozen ? 1 : 0;
                case 2:
                    return limit;
                case 3:
                    return balance;
                case 4:
                    return top;
                case 5:
                    return moves;
                case 6:
                    return odd;
                case 7:
                    return check;
                default:
                    return NONE;
            }
        }
    }

    /** The two latest snapshots of one stream; a version NONE says that there is none. */
    private static final class Shelf {
        private State later = new State();
        private State earlier = new State();
        private int laterVersion = NONE;
        private int earlierVersion = NONE;

        void clear() {
            laterVersion = NONE;
            earlierVersion = NONE;
        }

        void keep(int version, State state) {
            State free = earlier;
            earlier = later;
            earlierVersion = laterVersion;
            later = free;
            later.become(state);
            laterVersion = version;
        }

        /** Sets a state to where loading at a version begins; answers the version of that. */
        int restore(State state, int version) {
            // A stream only grows, so the later snapshot always has the greater version.
            if (laterVersion != NONE && laterVersion <= version) {
                state.become(later);
                return laterVersion;
            }
            if (earlierVersion != NONE && earlierVersion <= version) {
                state.become(earlier);
                return earlierVersion;
            }
            state.clear();
            return 0;
        }

        int versionOf(int k) {
            if (k == 0) {
                return laterVersion;
            }
            return k == 1 ? earlierVersion : NONE;
        }
    }

    /** One who follows streams, from a cursor on. */
    private static final class Reader {
        int cursor;
        int mark;
        private int streams;
        private int types;

        void begin(int streamSet, int typeSet, int from) {
            streams = streamSet & ((1 << STREAMS) - 1);
            types = typeSet & ((1 << TYPES) - 1);
            cursor = from;
            mark = from;
        }

        boolean wantsStream(int stream) {
            return (streams >> stream & 1) == 1;
        }

        boolean wantsType(int type) {
            return (types >> type & 1) == 1;
        }

        int moveToMark() {
            int grown = mark - cursor;
            cursor = mark;
            return grown;
        }
    }
}
