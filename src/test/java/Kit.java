import java.util.NoSuchElementException;

/** What the tests share: ways to fill an object, and to look at it. */
abstract class Kit {
    static final Check CHECK = new Check();

    static final int ANY = UpcastStreams.ANY;
    static final int NONE = UpcastStreams.NONE;
    static final int MIN = Integer.MIN_VALUE;
    static final int MAX = Integer.MAX_VALUE;

    static final int OPEN = 0;
    static final int FROZEN = 1;
    static final int LIMIT = 2;
    static final int BALANCE = 3;
    static final int TOP = 4;
    static final int MOVES = 5;
    static final int ODD = 6;
    static final int CHECKSUM = 7;

    static final String IAE = "throws.IllegalArgumentException";
    static final String ISE = "throws.IllegalStateException";
    static final String UOE = "throws.UnsupportedOperationException";
    static final String NSE = "throws.NoSuchElementException";

    /** Stages one event for every four numbers: type, form, a, b. */
    static void stageAll(UpcastStreams x, int... events) {
        for (int i = 0; i < events.length; i += 4) {
            boolean staged = x.stage(events[i], events[i + 1], events[i + 2], events[i + 3]);
            CHECK.due("stage of event " + i / 4, staged, true);
        }
    }

    static int store(UpcastStreams x, int stream, int... events) {
        stageAll(x, events);
        return x.commit(stream, ANY);
    }

    /** Stores so many events one by one in a new stream; freezing and thawing in turn always fits. */
    static void fill(UpcastStreams x, int stream, int count) {
        store(x, stream, 0, 3, 0, 0);
        for (int i = 1; i < count; i++) {
            store(x, stream, i % 2 == 1 ? 3 : 4, 3, 0, 0);
        }
    }

    /** Adds so many freezings and thawings, four to a batch where that goes, to a stream that is not empty. */
    static void fillOn(UpcastStreams x, int stream, int count) {
        int version = x.version(stream);
        for (int i = 1; i <= count; i++) {
            x.stage((version + i) % 2 == 0 ? 3 : 4, 3, 0, 0);
            if (i % 4 == 0 || i == count) {
                x.commit(stream, ANY);
            }
        }
        CHECK.due("filled", x.version(stream), version + count);
    }

    static void dueFields(UpcastStreams x, long... want) {
        for (int i = 0; i < want.length; i++) {
            CHECK.due("field(" + i + ")", x.field(i), want[i]);
        }
    }

    static void dueHand(UpcastStreams x, int... want) {
        for (int i = 0; i < want.length; i++) {
            CHECK.due("hand(" + i / 5 + ", " + i % 5 + ")", x.hand(i / 5, i % 5), want[i]);
        }
        CHECK.dueThrow("hand behind the last", NoSuchElementException.class, () -> x.hand(want.length / 5, 0));
    }

    static void dueStored(UpcastStreams x, int p, int... want) {
        for (int i = 0; i < want.length; i++) {
            CHECK.due("stored(" + p + ", " + i + ")", x.stored(p, i), want[i]);
        }
    }

    static void dueSnapshots(UpcastStreams x, int stream, int later, int earlier) {
        CHECK.due("snapshot(" + stream + ", 0)", x.snapshot(stream, 0), later);
        CHECK.due("snapshot(" + stream + ", 1)", x.snapshot(stream, 1), earlier);
    }

    /** What comes of one event of type 0 and form 1 (or 2), by one rule: type, a and b of each one. */
    static void dueComing(int form, int kind, int k, int a, int b, int... typeAB) {
        UpcastStreams x = new UpcastStreams(8);
        store(x, 6, 0, form, a, b);
        x.learn(0, form, kind, k);
        x.follow(3, 1 << 6, 63, 0);
        String call = "form " + form + ", kind " + kind + ", k " + k + ", a " + a;
        CHECK.due(call + ": comes", x.comes(0), typeAB.length / 3);
        CHECK.due(call + ": poll", x.poll(3, 4), typeAB.length / 3);
        for (int i = 0; i < typeAB.length; i++) {
            CHECK.due(call + ": hand(" + i / 3 + ", " + (i % 3 + 2) + ")", x.hand(i / 3, i % 3 + 2), typeAB[i]);
        }
    }

    static String told(Check.Call call) {
        return Check.told(call);
    }

    static String learned(UpcastStreams x, int type, int form, int kind, int k) {
        return told(() -> {
            x.learn(type, form, kind, k);
            return 0;
        });
    }

    static String followed(UpcastStreams x, int reader, int streams, int types, int from) {
        return told(() -> {
            x.follow(reader, streams, types, from);
            return 0;
        });
    }
}
