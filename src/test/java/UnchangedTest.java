import java.util.ArrayList;
import java.util.List;

/**
 * "A call that throws, or is refused, changes nothing": each such call is made on one of two objects
 * that are alike, and then both are asked for all that can be seen of them.
 */
public final class UnchangedTest extends Kit {
    private interface Way {
        void on(UpcastStreams x);
    }

    private interface Act {
        long on(UpcastStreams x);
    }

    /** A call with the answer that is due, as a text. */
    private record Asked(String name, String due, Act act) {
    }

    /** Tells one part of what can be seen; some of that is seen only by calls that change something. */
    private interface Look {
        void on(UpcastStreams x, List<String> seen);
    }

    private static final int[] NO_STREAMS = {MIN, -1, 8, MAX};
    private static final int[] NO_READERS = {MIN, -1, 4, MAX};
    private static final String NO = "0";
    private static final String NONE_TOLD = "-1";

    private static final List<Look> LOOKS = List.of(UnchangedTest::lookAtStored, UnchangedTest::lookAtTheRest,
            UnchangedTest::lookAtMarksAndSets, UnchangedTest::lookAtRules, UnchangedTest::lookAtStates,
            UnchangedTest::lookAtTheBatch, UnchangedTest::lookAtWhereTheBatchFits);

    public static void main(String[] args) {
        unchanged("a new object", x -> { }, everywhere());
        unchanged("a new object", x -> { }, emptyBatch());
        unchanged("a new object", x -> { }, ends(0, 0, 0));
        unchanged("an ordinary one", UnchangedTest::ordinary, everywhere());
        unchanged("an ordinary one", UnchangedTest::ordinary, anotherVersion(5));
        unchanged("an ordinary one", UnchangedTest::ordinary, ends(16, 5, 5));
        unchanged("one with an empty batch", UnchangedTest::withEmptyBatch, emptyBatch());
        unchanged("one with a full batch", UnchangedTest::withFullBatch, everywhere());
        unchanged("one with a full batch", UnchangedTest::withFullBatch, fifth());
        unchanged("one with 61 events", x -> filled(x, 61), tooMany(61));
        unchanged("one with 61 events", x -> filled(x, 61), anotherVersion(61));
        unchanged("one with 64 events", x -> filled(x, 64), everywhere());
        unchanged("one with 64 events", x -> filled(x, 64), tooMany(64));
        unchanged("one with 64 events", x -> filled(x, 64), ends(64, 64, 4));
        for (int i = 0; i < 4; i++) {
            int misfit = i;
            unchanged("one with a misfit at " + i, x -> withMisfit(x, misfit), refused(i));
        }
        changesAreSeen();
        CHECK.end();
    }

    private static void unchanged(String name, Way way, List<Asked> calls) {
        for (int i = 0; i < LOOKS.size(); i++) {
            List<String> plain = seen(way, null, LOOKS.get(i));
            for (Asked asked : calls) {
                CHECK.begin(name + ", " + asked.name + " changes nothing");
                dueAlike("look " + i, seen(way, asked, LOOKS.get(i)), plain);
            }
        }
    }

    private static List<String> seen(Way way, Asked asked, Look look) {
        UpcastStreams x = new UpcastStreams(2);
        way.on(x);
        if (asked != null) {
            CHECK.dueText(asked.name, told(() -> asked.act.on(x)), asked.due);
        }
        List<String> seen = new ArrayList<>();
        look.on(x, seen);
        return seen;
    }

    private static void dueAlike(String look, List<String> got, List<String> want) {
        CHECK.due(look + ", how much is seen", got.size(), want.size());
        for (int i = 0; i < Math.min(got.size(), want.size()); i++) {
            if (!got.get(i).equals(want.get(i))) {
                CHECK.dueText(look + ", answer " + i, got.get(i), want.get(i));
                return;
            }
        }
    }

    /** The looks are worth something: each call that does change something is seen by one of them. */
    private static void changesAreSeen() {
        CHECK.begin("a change is seen");
        List<Way> changes = List.of(x -> x.stage(1, 1, 0, 0), x -> x.unstage(), x -> x.commit(0, ANY),
                x -> x.learn(4, 2, 4, 0), x -> x.load(0, 2), x -> x.follow(0, 1, 63, 2), x -> x.follow(3, 1, 63, 0),
                x -> x.poll(0, 1), x -> x.poll(3, 4), x -> x.done(0));
        for (int i = 0; i < changes.size(); i++) {
            Way change = changes.get(i);
            Way changed = x -> {
                ordinary(x);
                change.on(x);
            };
            boolean differs = false;
            for (Look look : LOOKS) {
                differs |= !seen(changed, null, look).equals(seen(UnchangedTest::ordinary, null, look));
            }
            CHECK.due("change " + i, differs, true);
        }
    }

    // The objects

    /**
     * 16 events of all types and forms in the streams 0 (5 of them), 3 and 7, with rules, snapshots, a loaded
     * state, readers whose marks are not their cursors, and 5 events in the hand. Stream 0 is frozen.
     */
    private static void withEmptyBatch(UpcastStreams x) {
        x.learn(1, 1, 4, 0);
        x.learn(1, 2, 2, 3);
        x.learn(4, 1, 3, 99);
        x.learn(2, 1, 5, 1);
        store(x, 0, 0, 1, 100, 1, 1, 1, 11, 2, 2, 2, 3, 3);
        store(x, 3, 0, 2, 50, 4, 1, 2, 12, 5, 2, 1, 6, 6, 3, 1, 7, 7);
        store(x, 0, 1, 3, 5, 8, 3, 2, 0, 9);
        store(x, 7, 0, 3, 0, 10, 5, 1, 0, 11, 0, 1, 9, 12, 5, 2, 0, 13);
        store(x, 3, 4, 1, 0, 14, 3, 3, 0, 15, 4, 2, 0, 16);
        x.follow(0, 255, 63, 1);
        x.follow(1, 9, 2, 0);
        x.follow(2, 128, 33, 16);
        x.poll(1, 2);
        x.done(1);
        x.poll(1, 1);
        x.poll(0, 4);
        x.load(3, 3);
    }

    private static void ordinary(UpcastStreams x) {
        withEmptyBatch(x);
        stageAll(x, 4, 3, 21, 22, 3, 1, 23, 24);
    }

    private static void withFullBatch(UpcastStreams x) {
        withEmptyBatch(x);
        stageAll(x, 4, 3, 1, 1, 1, 1, 2, 2, 3, 2, 3, 3, 4, 1, 4, 4);
    }

    /** Stream 0 with so many events, a reader at 7 with 4 in the hand, and a full batch that fits. */
    private static void filled(UpcastStreams x, int count) {
        x.learn(3, 1, 3, 8);
        x.learn(4, 2, 2, 5);
        stageAll(x, 0, 3, 0, 0);
        for (int i = 1; i < count; i++) {
            if (i % 4 == 0) {
                x.commit(0, ANY);
            }
            x.stage(i % 2 == 1 ? 3 : 4, 1 + i % 3, i, -i);
        }
        x.commit(0, ANY);
        CHECK.due("total", x.total(), count);
        x.follow(1, 1, 63, 7);
        x.poll(1, 4);
        x.load(0, 9);
        for (int i = count; i < count + 4; i++) {
            x.stage(i % 2 == 1 ? 3 : 4, 1, i, -i);
        }
    }

    /** Of stream 3, 104 can be paid out; stream 5 takes the same batch. */
    private static void withMisfit(UpcastStreams x, int i) {
        int[][] amounts = {{105, 1, 1, 1}, {104, 1, 1, 0}, {100, 4, 1, 1}, {100, 2, 2, 1}};
        withEmptyBatch(x);
        store(x, 5, 0, 3, MAX, 0);
        for (int amount : amounts[i]) {
            stageAll(x, 2, 3, amount, -amount);
        }
    }

    // The calls

    private static final class Calls {
        final List<Asked> list = new ArrayList<>();

        void put(String name, String due, Act act) {
            list.add(new Asked(name, due, act));
        }

        void learn(int type, int form, int kind, int k) {
            put("learn(" + type + ", " + form + ", " + kind + ", " + k + ")", IAE, x -> {
                x.learn(type, form, kind, k);
                return 0;
            });
        }

        void follow(int reader, int from) {
            put("follow(" + reader + ", .., " + from + ")", IAE, x -> {
                x.follow(reader, 170, 21, from);
                return 0;
            });
        }

        void commit(int stream, int expected, String due) {
            put("commit(" + stream + ", " + expected + ")", due, x -> x.commit(stream, expected));
        }
    }

    /** Calls that are wrong whatever the object holds. */
    private static List<Asked> everywhere() {
        Calls calls = new Calls();
        wrongStreams(calls);
        wrongReaders(calls);
        wrongEvents(calls);
        wrongRules(calls);
        wrongParts(calls);
        return calls.list;
    }

    private static void wrongStreams(Calls calls) {
        for (int s : NO_STREAMS) {
            calls.commit(s, ANY, IAE);
            calls.commit(s, 0, IAE);
            calls.put("version(" + s + ")", NONE_TOLD, x -> x.version(s));
            calls.put("load(" + s + ", 0)", IAE, x -> x.load(s, 0));
            calls.put("snapshot(" + s + ", 0)", NONE_TOLD, x -> x.snapshot(s, 0));
        }
        for (int v : new int[] {MIN, -1, 65, MAX}) {
            calls.put("load(0, " + v + ")", IAE, x -> x.load(0, v));
        }
        for (int k : new int[] {MIN, -1, 2, MAX}) {
            calls.put("snapshot(0, " + k + ")", NONE_TOLD, x -> x.snapshot(0, k));
        }
    }

    private static void wrongReaders(Calls calls) {
        for (int r : NO_READERS) {
            calls.follow(r, 0);
            calls.put("poll(" + r + ", 1)", IAE, x -> x.poll(r, 1));
            calls.put("done(" + r + ")", IAE, x -> x.done(r));
            calls.put("cursor(" + r + ")", NONE_TOLD, x -> x.cursor(r));
        }
        for (int from : new int[] {MIN, -1, 65, MAX}) {
            calls.follow(0, from);
            calls.follow(3, from);
        }
        for (int n : new int[] {MIN, -1, 0, 5, MAX}) {
            calls.put("poll(0, " + n + ")", IAE, x -> x.poll(0, n));
            calls.put("poll(1, " + n + ")", IAE, x -> x.poll(1, n));
        }
    }

    private static void wrongEvents(Calls calls) {
        for (int type : new int[] {MIN, -1, 6, MAX}) {
            calls.put("stage(" + type + ", 3, 7, 7)", NO, x -> x.stage(type, 3, 7, 7) ? 1 : 0);
        }
        for (int form : new int[] {MIN, -1, 0, 4, MAX}) {
            calls.put("stage(1, " + form + ", 7, 7)", NO, x -> x.stage(1, form, 7, 7) ? 1 : 0);
        }
    }

    private static void wrongRules(Calls calls) {
        for (int wrong : new int[] {MIN, -1, 6, MAX}) {
            calls.learn(wrong, 1, 6, 0);
            calls.learn(wrong, 2, 6, 0);
            calls.learn(0, 1, 5, wrong);
            calls.learn(3, 2, 5, wrong);
        }
        for (int form : new int[] {MIN, -1, 0, 3, 4, MAX}) {
            calls.learn(0, form, 6, 0);
            calls.learn(3, form, 6, 0);
            calls.learn(5, form, 6, 0);
        }
        for (int kind : new int[] {MIN, -1, 7, MAX}) {
            calls.learn(0, 1, kind, 0);
            calls.learn(3, 2, kind, 0);
        }
    }

    private static void wrongParts(Calls calls) {
        for (int p : new int[] {MIN, -1, 64, MAX}) {
            calls.put("stored(" + p + ", 0)", NSE, x -> x.stored(p, 0));
            calls.put("comes(" + p + ")", NSE, x -> x.comes(p));
        }
        for (int part : new int[] {MIN, -1, 6, MAX}) {
            calls.put("stored(0, " + part + ")", NSE, x -> x.stored(0, part));
        }
        for (int i : new int[] {MIN, -1, 16, MAX}) {
            calls.put("hand(" + i + ", 0)", NSE, x -> x.hand(i, 0));
        }
        for (int part : new int[] {MIN, -1, 5, MAX}) {
            calls.put("hand(0, " + part + ")", NSE, x -> x.hand(0, part));
        }
        for (int what : new int[] {MIN, -1, 8, MAX}) {
            calls.put("field(" + what + ")", NONE_TOLD, x -> x.field(what));
        }
    }

    /** Just behind the last one that there is: of the stored events, of stream 0, and in the hand. */
    private static List<Asked> ends(int total, int version, int inHand) {
        Calls calls = new Calls();
        calls.put("stored(" + total + ", 0)", NSE, x -> x.stored(total, 0));
        calls.put("comes(" + total + ")", NSE, x -> x.comes(total));
        calls.put("load(0, " + (version + 1) + ")", IAE, x -> x.load(0, version + 1));
        calls.put("hand(" + inHand + ", 0)", NSE, x -> x.hand(inHand, 0));
        calls.follow(0, total + 1);
        calls.follow(1, total + 1);
        return calls.list;
    }

    private static List<Asked> emptyBatch() {
        Calls calls = new Calls();
        for (int expected : new int[] {ANY, 0, 5, MAX}) {
            calls.commit(0, expected, IAE);
            calls.commit(1, expected, IAE);
        }
        return calls.list;
    }

    private static List<Asked> anotherVersion(int version) {
        Calls calls = new Calls();
        for (int expected : new int[] {MIN, -2, version - 1, version + 1, MAX}) {
            calls.commit(0, expected, ISE);
        }
        calls.commit(1, version, ISE);
        return calls.list;
    }

    private static List<Asked> fifth() {
        Calls calls = new Calls();
        for (int type = 0; type < 6; type++) {
            int staged = type;
            calls.put("stage(" + type + ", 3, 7, 7)", NO, x -> x.stage(staged, 3, 7, 7) ? 1 : 0);
        }
        return calls.list;
    }

    private static List<Asked> tooMany(int version) {
        Calls calls = new Calls();
        calls.commit(0, ANY, UOE);
        calls.commit(0, version, UOE);
        calls.commit(7, 0, UOE);
        return calls.list;
    }

    private static List<Asked> refused(int i) {
        Calls calls = new Calls();
        calls.commit(3, ANY, Integer.toString(-1 - i));
        calls.commit(3, 7, Integer.toString(-1 - i));
        calls.commit(1, ANY, "-1");
        return calls.list;
    }

    // The looks

    private static void tell(List<String> seen, Check.Call call) {
        seen.add(told(call));
    }

    private static void lookAtStored(UpcastStreams x, List<String> seen) {
        for (int s = 0; s < 8; s++) {
            int stream = s;
            tell(seen, () -> x.version(stream));
        }
        int total = x.total();
        for (int i = 0; i < 6 * total; i++) {
            int at = i;
            tell(seen, () -> x.stored(at / 6, at % 6));
        }
    }

    private static void lookAtTheRest(UpcastStreams x, List<String> seen) {
        for (int i = 0; i < 16; i++) {
            int at = i;
            tell(seen, () -> x.snapshot(at / 2, at % 2));
        }
        for (int i = 0; i < 8; i++) {
            int at = i;
            tell(seen, () -> x.field(at));
            tell(seen, () -> x.cursor(at));
        }
        lookAtTheHand(x, seen);
        int total = x.total();
        for (int p = 0; p < total; p++) {
            int at = p;
            tell(seen, () -> x.comes(at));
        }
    }

    private static void lookAtTheHand(UpcastStreams x, List<String> seen) {
        for (int i = 0; i <= 16; i++) {
            int at = i;
            tell(seen, () -> x.hand(at, 0));
            if (seen.get(seen.size() - 1).equals(NSE)) {
                return;
            }
            for (int part = 1; part < 5; part++) {
                int asked = part;
                tell(seen, () -> x.hand(at, asked));
            }
        }
    }

    private static void lookAtMarksAndSets(UpcastStreams x, List<String> seen) {
        for (int r = 0; r < 4; r++) {
            int reader = r;
            tell(seen, () -> x.done(reader));
            tell(seen, () -> x.cursor(reader));
            tell(seen, () -> x.poll(reader, 4));
            lookAtTheHand(x, seen);
            tell(seen, () -> x.done(reader));
        }
    }

    /** What comes of each stored event tells of the rules. */
    private static void lookAtRules(UpcastStreams x, List<String> seen) {
        x.follow(0, 255, 63, 0);
        for (int i = 0; i < 16; i++) {
            tell(seen, () -> x.poll(0, 4));
            lookAtTheHand(x, seen);
            x.done(0);
        }
    }

    /** Many versions of a long stream would be more than 512 calls, so every fourth must do. */
    private static void lookAtStates(UpcastStreams x, List<String> seen) {
        for (int s = 0; s < 8; s++) {
            int stream = s;
            int version = x.version(s);
            for (int v = 0; v <= version; v += version > 20 ? 4 : 1) {
                int asked = v;
                tell(seen, () -> x.load(stream, asked));
                for (int what = 0; what < 8; what++) {
                    int part = what;
                    tell(seen, () -> x.field(part));
                }
            }
        }
    }

    private static void lookAtTheBatch(UpcastStreams x, List<String> seen) {
        tell(seen, () -> x.unstage());
    }

    private static void lookAtWhereTheBatchFits(UpcastStreams x, List<String> seen) {
        for (int s = 0; s < 8; s++) {
            int stream = s;
            tell(seen, () -> x.commit(stream, ANY));
            tell(seen, () -> x.snapshot(stream, 0));
            tell(seen, () -> x.snapshot(stream, 1));
        }
        tell(seen, () -> x.unstage());
        int total = x.total();
        for (int p = Math.max(0, total - 4); p < total; p++) {
            int at = p;
            for (int part = 0; part < 6; part++) {
                int asked = part;
                tell(seen, () -> x.stored(at, asked));
            }
        }
    }
}
