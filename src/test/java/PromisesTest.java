import java.util.NoSuchElementException;

/** Each promise of the document by itself: ordinary inputs, the edges it names, and wrong inputs. */
public final class PromisesTest extends Kit {
    public static void main(String[] args) {
        newObject();
        periods();
        stage();
        unstage();
        commitAnswers();
        commitThrows();
        commitRefuses();
        commitFull();
        commitAfterOddEvents();
        commitSnapshots();
        fitting();
        fittingWide();
        version();
        total();
        stored();
        learnEmpties();
        learnThrows();
        kinds();
        twoSteps();
        comes();
        load();
        loadFromSnapshots();
        loadThrows();
        field();
        fieldStays();
        snapshot();
        follow();
        followMasks();
        pollTypes();
        pollMark();
        pollWidest();
        pollThrows();
        done();
        cursor();
        hand();
        CHECK.end();
    }

    private static void newObject() {
        CHECK.begin("promise 1");
        UpcastStreams x = new UpcastStreams(3);
        CHECK.due("total()", x.total(), 0);
        CHECK.due("unstage()", x.unstage(), 0);
        for (int s = 0; s < 8; s++) {
            CHECK.due("version", x.version(s), 0);
            dueSnapshots(x, s, NONE, NONE);
            CHECK.due("load", x.load(s, 0), 0);
        }
        dueFields(x, 0, 0, 0, 0, 0, 0, 0, 0, NONE);
        for (int r = 0; r < 4; r++) {
            CHECK.due("cursor", x.cursor(r), 0);
            CHECK.due("done", x.done(r), 0);
        }
        dueHand(x);
        store(x, 0, 0, 3, 0, 0);
        CHECK.due("poll with empty sets", x.poll(0, 1), 0);
    }

    private static void periods() {
        CHECK.begin("promise 1 (periods)");
        int[] given = {MIN, -1, 0, 1, 2, 3, 4, 5, 6, 7, 8, 9, MAX};
        int[] taken = {1, 1, 1, 1, 2, 3, 4, 5, 6, 7, 8, 8, 8};
        for (int i = 0; i < given.length; i++) {
            UpcastStreams x = new UpcastStreams(given[i]);
            for (int v = 1; v <= 2 * taken[i] + 1; v++) {
                store(x, 5, v == 1 ? 0 : v % 2 == 0 ? 3 : 4, 3, 0, 0);
                int passed = v / taken[i];
                dueSnapshots(x, 5, passed > 0 ? passed * taken[i] : NONE, passed > 1 ? (passed - 1) * taken[i] : NONE);
            }
        }
    }

    private static void stage() {
        CHECK.begin("promise 2");
        UpcastStreams x = new UpcastStreams(1);
        CHECK.due("type -1", x.stage(-1, 1, 0, 0), false);
        CHECK.due("type 6", x.stage(6, 1, 0, 0), false);
        CHECK.due("type MIN", x.stage(MIN, 1, 0, 0), false);
        CHECK.due("form 0", x.stage(0, 0, 0, 0), false);
        CHECK.due("form 4", x.stage(0, 4, 0, 0), false);
        CHECK.due("form MIN", x.stage(0, MIN, 0, 0), false);
        CHECK.due("what was refused is not there", x.unstage(), 0);
        CHECK.due("type 0, form 3", x.stage(0, 3, 9, MIN), true);
        CHECK.due("type 1, form 2", x.stage(1, 2, MAX, -1), true);
        CHECK.due("type 2, form 1", x.stage(2, 1, 7, MAX), true);
        CHECK.due("type 3, form 1", x.stage(3, 1, MIN, 0), true);
        CHECK.due("a fifth", x.stage(4, 1, 0, 0), false);
        CHECK.due("commit", x.commit(2, 0), 4);
        dueStored(x, 0, 2, 0, 0, 3, 9, MIN);
        dueStored(x, 1, 2, 1, 1, 2, MAX, -1);
        dueStored(x, 2, 2, 2, 2, 1, 7, MAX);
        dueStored(x, 3, 2, 3, 3, 1, MIN, 0);
        CHECK.due("after the commit there is room", x.stage(5, 1, 0, 0), true);
    }

    private static void unstage() {
        CHECK.begin("promise 3");
        UpcastStreams x = new UpcastStreams(1);
        CHECK.due("empty", x.unstage(), 0);
        stageAll(x, 5, 3, 0, 0, 5, 3, 0, 0, 5, 3, 0, 0, 5, 3, 0, 0);
        CHECK.due("four", x.unstage(), 4);
        CHECK.due("again", x.unstage(), 0);
        CHECK.dueThrow("commit of nothing", IllegalArgumentException.class, () -> x.commit(0, 0));
        stageAll(x, 0, 3, 1, 2);
        CHECK.due("commit", x.commit(0, 0), 1);
        CHECK.due("after the commit", x.unstage(), 0);
        dueStored(x, 0, 0, 0, 0, 3, 1, 2);
    }

    private static void commitAnswers() {
        CHECK.begin("promise 4");
        UpcastStreams x = new UpcastStreams(8);
        CHECK.due("first", store(x, 0, 0, 3, 100, 0, 1, 3, 5, 0), 2);
        stageAll(x, 1, 3, 6, 0);
        CHECK.due("with the version", x.commit(0, 2), 3);
        CHECK.due("another stream", store(x, 7, 0, 1, 0, 0), 1);
        CHECK.due("the first one again", store(x, 0, 2, 3, 111, 0), 4);
        CHECK.due("the batch is empty", x.unstage(), 0);
        CHECK.due("total", x.total(), 5);
        dueStored(x, 3, 7, 0, 0, 1, 0, 0);
        dueStored(x, 4, 0, 3, 2, 3, 111, 0);
    }

    private static void commitThrows() {
        CHECK.begin("promise 4 (throws)");
        UpcastStreams x = new UpcastStreams(8);
        store(x, 0, 0, 3, 0, 0);
        CHECK.dueThrow("empty batch, wrong version", IllegalArgumentException.class, () -> x.commit(0, 5));
        stageAll(x, 3, 3, 0, 0);
        for (int stream : new int[] {-1, 8, MIN, MAX}) {
            CHECK.dueThrow("no such stream", IllegalArgumentException.class, () -> x.commit(stream, ANY));
        }
        for (int expected : new int[] {0, 2, -2, MIN, MAX}) {
            CHECK.dueThrow("wrong version", IllegalStateException.class, () -> x.commit(0, expected));
        }
        CHECK.due("nothing stored", x.total(), 1);
        CHECK.due("the batch stayed", x.commit(0, 1), 2);
        stageAll(x, 3, 3, 0, 0);
        CHECK.dueThrow("wrong version of what does not fit", IllegalStateException.class, () -> x.commit(0, 1));
        CHECK.due("unstage", x.unstage(), 1);
    }

    private static void commitRefuses() {
        CHECK.begin("promise 4 (refusals)");
        UpcastStreams x = new UpcastStreams(1);
        CHECK.due("first one", store(x, 0, 1, 3, 0, 0, 0, 3, 0, 0), -1);
        CHECK.due("again, the batch stayed", x.commit(0, 0), -1);
        CHECK.due("unstage", x.unstage(), 2);
        CHECK.due("third one", store(x, 0, 0, 3, 0, 0, 1, 3, 4, 0, 2, 3, 5, 0, 2, 3, 4, 0), -3);
        CHECK.due("total", x.total(), 0);
        CHECK.due("version", x.version(0), 0);
        dueSnapshots(x, 0, NONE, NONE);
        x.unstage();
        CHECK.due("fourth one", store(x, 0, 0, 3, 0, 0, 1, 3, 4, 0, 2, 3, 4, 0, 2, 3, 1, 0), -4);
        x.unstage();
        x.learn(1, 2, 4, 0);
        // -1 is split into -1, which does not fit, and 0, which does.
        CHECK.due("half of it", store(x, 0, 0, 3, 0, 0, 1, 2, -1, 0), -2);
        x.unstage();
        x.learn(3, 1, 4, 0);
        CHECK.due("frozen twice", store(x, 0, 0, 3, 0, 0, 3, 1, 0, 0), -2);
        x.unstage();
        x.learn(3, 2, 6, 0);
        CHECK.due("nothing comes, so all fits", store(x, 0, 3, 1, 0, 0, 3, 2, 0, 0), 2);
        dueSnapshots(x, 0, 2, NONE);
        CHECK.due("refused", store(x, 0, 5, 3, 0, 0), -1);
        CHECK.due("version", x.version(0), 2);
    }

    private static void commitFull() {
        CHECK.begin("promise 4 (64 events)");
        UpcastStreams x = new UpcastStreams(1);
        fill(x, 3, 61);
        stageAll(x, 3, 3, 0, 0, 4, 3, 0, 0, 3, 3, 0, 0, 4, 3, 0, 0);
        CHECK.dueThrow("65", UnsupportedOperationException.class, () -> x.commit(3, 61));
        CHECK.dueThrow("65, wrong version", IllegalStateException.class, () -> x.commit(3, 60));
        CHECK.dueThrow("65, wrong stream", IllegalArgumentException.class, () -> x.commit(8, 61));
        CHECK.due("the batch stayed", x.unstage(), 4);
        CHECK.due("64", store(x, 3, 3, 3, 0, 0, 4, 3, 0, 0, 3, 3, 0, 0), 64);
        CHECK.due("total", x.total(), 64);
        stageAll(x, 0, 3, 0, 0);
        CHECK.dueThrow("65 in another stream", UnsupportedOperationException.class, () -> x.commit(0, 0));
        x.unstage();
        stageAll(x, 5, 3, 0, 0);
        CHECK.dueThrow("65, and it does not fit", UnsupportedOperationException.class, () -> x.commit(0, 0));
        CHECK.due("load", x.load(3, 64), 0);
        CHECK.due("load from the earlier snapshot", x.load(3, 63), 2);
        CHECK.due("load from none", x.load(3, 60), 60);
        CHECK.due("moves", x.field(MOVES), 60);
    }

    /** What is odd in the stream already is no reason to refuse a batch that fits. */
    private static void commitAfterOddEvents() {
        CHECK.begin("promise 4 (odd ones before)");
        UpcastStreams x = new UpcastStreams(3);
        store(x, 0, 0, 1, 10, 0, 1, 1, 5, 0);
        x.learn(1, 1, 2, -1);
        CHECK.due("fits", store(x, 0, 2, 3, 10, 0), 3);
        dueSnapshots(x, 0, 3, NONE);
        CHECK.due("load", x.load(0, 3), 0);
        dueFields(x, 1, 0, 10, -10, 0, 2, 1);
        CHECK.due("does not fit", store(x, 0, 2, 3, 1, 0), -1);
    }

    private static void commitSnapshots() {
        CHECK.begin("promise 4 (snapshots)");
        UpcastStreams x = new UpcastStreams(3);
        store(x, 0, 0, 3, 0, 0, 3, 3, 0, 0);
        dueSnapshots(x, 0, NONE, NONE);
        store(x, 0, 4, 3, 0, 0, 3, 3, 0, 0, 4, 3, 0, 0);
        dueSnapshots(x, 0, 5, NONE);
        store(x, 0, 3, 3, 0, 0);
        dueSnapshots(x, 0, 6, 5);
        store(x, 0, 4, 3, 0, 0, 3, 3, 0, 0);
        dueSnapshots(x, 0, 6, 5);
        store(x, 0, 4, 3, 0, 0, 3, 3, 0, 0);
        dueSnapshots(x, 0, 10, 6);
        dueSnapshots(x, 1, NONE, NONE);
        UpcastStreams one = new UpcastStreams(1);
        store(one, 0, 0, 3, 0, 0, 3, 3, 0, 0, 4, 3, 0, 0, 5, 3, 0, 0);
        dueSnapshots(one, 0, 4, NONE);
    }

    /** For each type, in each of the states new, open, in credit, frozen and closed: does it fit? */
    private static void fitting() {
        CHECK.begin("fitting");
        int[][] ways = {{}, {0, 3, 5, 0}, {0, 3, 5, 0, 1, 3, 2, 0}, {0, 3, 5, 0, 3, 3, 0, 0}, {0, 3, 5, 0, 5, 3, 0, 0}};
        int[][] events = {{0, 0}, {0, -1}, {1, 0}, {1, 1}, {1, -1}, {2, 0}, {2, 5}, {2, 6}, {2, 7}, {2, 8}, {2, -1},
            {3, -1}, {4, -1}, {5, -1}};
        String[] fits = {"11000000000000", "00110110000101", "00110111100100", "00000000000010", "11000000000000"};
        for (int w = 0; w < ways.length; w++) {
            for (int e = 0; e < events.length; e++) {
                UpcastStreams x = new UpcastStreams(8);
                int before = ways[w].length / 4;
                if (before > 0) {
                    store(x, 1, ways[w]);
                }
                boolean fit = fits[w].charAt(e) == '1';
                int answer = store(x, 1, events[e][0], 3, events[e][1], 0);
                CHECK.due("state " + w + ", type " + events[e][0] + ", a " + events[e][1], answer, fit ? before + 1 : -1);
            }
        }
    }

    /** Sums of ints are sums of longs here. */
    private static void fittingWide() {
        CHECK.begin("fitting (wide)");
        UpcastStreams x = new UpcastStreams(8);
        store(x, 0, 0, 3, MAX, 0, 1, 3, MAX, 0, 1, 3, MAX, 0);
        CHECK.due("out", store(x, 0, 2, 3, MAX, 0, 2, 3, MAX, 0, 2, 3, MAX, 0), 6);
        x.load(0, 3);
        CHECK.due("balance", x.field(BALANCE), 2L * MAX);
        CHECK.due("top", x.field(TOP), 2L * MAX);
        x.load(0, 6);
        dueFields(x, 1, 0, MAX, -(long) MAX, 2L * MAX, 6, 0);
        CHECK.due("one more", store(x, 0, 2, 3, 1, 0), -1);
        x.unstage();
        store(x, 1, 0, 3, MIN, 0);
        CHECK.due("limit below 0", store(x, 1, 2, 3, 0, 0), -1);
        x.unstage();
        CHECK.due("up to it", store(x, 1, 1, 3, MAX, 0, 1, 3, 1, 0, 2, 3, 0, 0), 4);
    }

    private static void version() {
        CHECK.begin("promise 5");
        UpcastStreams x = new UpcastStreams(1);
        store(x, 7, 0, 3, 0, 0, 3, 3, 0, 0);
        store(x, 0, 0, 3, 0, 0);
        int[] want = {1, 0, 0, 0, 0, 0, 0, 2};
        for (int s = 0; s < 8; s++) {
            CHECK.due("version(" + s + ")", x.version(s), want[s]);
        }
        for (int s : new int[] {-1, 8, MIN, MAX}) {
            CHECK.due("version(" + s + ")", x.version(s), NONE);
        }
    }

    private static void total() {
        CHECK.begin("promise 6");
        UpcastStreams x = new UpcastStreams(1);
        stageAll(x, 0, 3, 0, 0);
        CHECK.due("what is staged is not stored", x.total(), 0);
        x.commit(1, ANY);
        CHECK.due("one", x.total(), 1);
        store(x, 2, 0, 3, 0, 0, 3, 3, 0, 0, 4, 3, 0, 0, 5, 3, 0, 0);
        CHECK.due("five", x.total(), 5);
        x.learn(0, 1, 6, 0);
        CHECK.due("still", x.total(), 5);
    }

    private static void stored() {
        CHECK.begin("promise 7");
        UpcastStreams x = new UpcastStreams(1);
        store(x, 3, 0, 1, -5, 6);
        store(x, 4, 0, 2, 7, -8, 1, 1, 9, 10);
        store(x, 3, 3, 3, 11, 12);
        x.learn(0, 1, 5, 1);
        x.learn(1, 1, 6, 0);
        dueStored(x, 0, 3, 0, 0, 1, -5, 6);
        dueStored(x, 1, 4, 0, 0, 2, 7, -8);
        dueStored(x, 2, 4, 1, 1, 1, 9, 10);
        dueStored(x, 3, 3, 1, 3, 3, 11, 12);
        for (int p : new int[] {-1, 4, 64, MIN, MAX}) {
            CHECK.dueThrow("stored(" + p + ", 0)", NoSuchElementException.class, () -> x.stored(p, 0));
        }
        for (int part : new int[] {-1, 6, MIN, MAX}) {
            CHECK.dueThrow("stored(0, " + part + ")", NoSuchElementException.class, () -> x.stored(0, part));
        }
    }

    private static void learnEmpties() {
        CHECK.begin("promise 8");
        UpcastStreams x = new UpcastStreams(1);
        store(x, 0, 0, 3, 0, 0);
        store(x, 7, 0, 3, 8, 0);
        store(x, 7, 1, 3, 5, 0);
        x.follow(2, 255, 63, 1);
        x.poll(2, 1);
        x.load(7, 2);
        stageAll(x, 3, 3, 0, 0);
        x.learn(5, 2, 0, 0);
        dueSnapshots(x, 0, NONE, NONE);
        dueSnapshots(x, 7, NONE, NONE);
        dueHand(x);
        CHECK.due("unstage", x.unstage(), 0);
        dueFields(x, 1, 0, 8, 5, 5, 2, 0);
        CHECK.due("cursor", x.cursor(2), 1);
        CHECK.due("the mark stays", x.done(2), 1);
        CHECK.due("load folds all", x.load(7, 2), 2);
        store(x, 7, 3, 3, 0, 0);
        dueSnapshots(x, 7, 3, NONE);
    }

    private static void learnThrows() {
        CHECK.begin("promise 8 (throws)");
        UpcastStreams x = new UpcastStreams(1);
        store(x, 0, 0, 1, 6, 9);
        x.follow(0, 1, 1, 0);
        x.poll(0, 1);
        stageAll(x, 3, 3, 0, 0);
        int[][] wrong = {{-1, 1, 0, 0}, {6, 1, 0, 0}, {MIN, 1, 0, 0}, {MAX, 1, 0, 0}, {0, 0, 6, 0}, {0, 3, 6, 0}, {0, -1, 6, 0},
            {0, MIN, 6, 0}, {0, MAX, 6, 0}, {0, 1, -1, 0}, {0, 1, 7, 0}, {0, 1, MIN, 0}, {0, 1, MAX, 0}, {0, 1, 5, -1},
            {0, 1, 5, 6}, {0, 1, 5, MIN}, {0, 1, 5, MAX}};
        for (int[] w : wrong) {
            CHECK.dueThrow("learn", IllegalArgumentException.class, () -> {
                x.learn(w[0], w[1], w[2], w[3]);
                return 0;
            });
        }
        dueSnapshots(x, 0, 1, NONE);
        dueHand(x, 0, 0, 0, 6, 9);
        CHECK.due("unstage", x.unstage(), 1);
        CHECK.due("poll", x.poll(0, 1), 1);
        dueHand(x, 0, 0, 0, 6, 9);
        x.learn(5, 2, 4, MIN);
        x.learn(0, 1, 5, 0);
        x.learn(0, 1, 5, 5);
        CHECK.due("poll", x.poll(0, 1), 0);
    }

    private static void kinds() {
        CHECK.begin("rules");
        for (int form = 1; form <= 2; form++) {
            dueComing(form, 0, 9, 3, 4, 0, 3, 4);
            dueComing(form, 1, 9, 3, 4, 0, 4, 3);
            dueComing(form, 2, 9, 3, 4, 0, 27, 4);
            dueComing(form, 2, 0, 3, 4, 0, 0, 4);
            dueComing(form, 2, MAX, MAX, 4, 0, 1, 4);
            dueComing(form, 2, 65536, 65536, 4, 0, 0, 4);
            dueComing(form, 3, 9, 3, 4, 0, 3, 9);
            dueComing(form, 3, MIN, 3, 4, 0, 3, MIN);
            dueComing(form, 4, 9, 8, 4, 0, 4, 4, 0, 4, 4);
            dueComing(form, 4, 9, 7, 4, 0, 3, 4, 0, 4, 4);
            dueComing(form, 4, 9, 0, 4, 0, 0, 4, 0, 0, 4);
            dueComing(form, 4, 9, -1, 4, 0, -1, 4, 0, 0, 4);
            dueComing(form, 4, 9, -7, 4, 0, -4, 4, 0, -3, 4);
            dueComing(form, 4, 9, MAX, 4, 0, MAX / 2, 4, 0, MAX / 2 + 1, 4);
            dueComing(form, 4, 9, MIN, 4, 0, MIN / 2, 4, 0, MIN / 2, 4);
            for (int k = 0; k < 6; k++) {
                dueComing(form, 5, k, 3, 4, k, 3, 4);
            }
            dueComing(form, 6, 9, 3, 4);
        }
    }

    private static void twoSteps() {
        CHECK.begin("rules (two steps)");
        UpcastStreams x = new UpcastStreams(8);
        store(x, 0, 0, 1, 11, 4, 3, 3, 11, 4, 4, 2, 11, 4);
        x.follow(0, 255, 63, 0);
        x.learn(0, 1, 4, 0);
        x.learn(0, 2, 4, 0);
        x.poll(0, 1);
        dueHand(x, 0, 0, 0, 2, 4, 0, 0, 0, 3, 4, 0, 0, 0, 3, 4, 0, 0, 0, 3, 4);
        x.learn(0, 1, 3, 77);
        x.learn(0, 2, 1, 0);
        x.poll(0, 1);
        dueHand(x, 0, 0, 0, 77, 11);
        // The second step goes by the rule of the new type.
        x.learn(0, 1, 5, 3);
        x.learn(3, 2, 2, -2);
        x.learn(3, 1, 6, 0);
        x.poll(0, 1);
        dueHand(x, 0, 0, 3, -22, 4);
        x.learn(3, 2, 6, 0);
        x.learn(4, 1, 6, 0);
        CHECK.due("nothing", x.comes(0), 0);
        CHECK.due("form 3 is itself", x.comes(1), 1);
        CHECK.due("form 2 does not go by the rule of form 1", x.comes(2), 1);
    }

    private static void comes() {
        CHECK.begin("promise 9");
        UpcastStreams x = new UpcastStreams(8);
        CHECK.dueThrow("comes(0)", NoSuchElementException.class, () -> x.comes(0));
        store(x, 0, 0, 1, 8, 0, 1, 1, 8, 0, 1, 2, 8, 0, 1, 3, 8, 0);
        x.learn(1, 1, 4, 0);
        x.learn(1, 2, 4, 0);
        x.learn(0, 2, 6, 0);
        int[] want = {0, 4, 2, 1};
        for (int p = 0; p < 4; p++) {
            CHECK.due("comes(" + p + ")", x.comes(p), want[p]);
        }
        x.learn(1, 2, 6, 0);
        CHECK.due("both are dropped", x.comes(1), 0);
        for (int p : new int[] {-1, 4, 64, MIN, MAX}) {
            CHECK.dueThrow("comes(" + p + ")", NoSuchElementException.class, () -> x.comes(p));
        }
    }

    private static void load() {
        CHECK.begin("promise 10");
        UpcastStreams x = new UpcastStreams(8);
        store(x, 0, 0, 3, 50, 1);
        store(x, 1, 0, 3, 70, 1, 1, 3, 9, 2);
        store(x, 0, 1, 2, 20, 2, 2, 1, 60, 3);
        long[] balances = {0, 0, 20, -40};
        for (int v = 0; v <= 3; v++) {
            CHECK.due("load(0, " + v + ")", x.load(0, v), v);
            CHECK.due("balance", x.field(BALANCE), balances[v]);
            CHECK.due("moves", x.field(MOVES), v);
        }
        CHECK.due("load(1, 2)", x.load(1, 2), 2);
        dueFields(x, 1, 0, 70, 9, 9, 2, 0);
        x.learn(1, 2, 4, 0);
        x.learn(2, 1, 6, 0);
        CHECK.due("stored events are counted, not what comes", x.load(0, 3), 3);
        dueFields(x, 1, 0, 50, 20, 20, 3, 0);
        x.learn(1, 2, 2, -1);
        CHECK.due("odd ones too", x.load(0, 3), 3);
        dueFields(x, 1, 0, 50, 0, 0, 1, 1);
    }

    private static void loadFromSnapshots() {
        CHECK.begin("promise 10 (snapshots)");
        UpcastStreams x = new UpcastStreams(2);
        store(x, 0, 0, 3, 50, 1);
        for (int v = 2; v <= 7; v++) {
            store(x, 0, 1, 3, v, v);
        }
        dueSnapshots(x, 0, 6, 4);
        int[] folded = {0, 1, 2, 3, 0, 1, 0, 1};
        int balance = 0;
        for (int v = 0; v <= 7; v++) {
            CHECK.due("load(0, " + v + ")", x.load(0, v), folded[v]);
            balance += v > 1 ? v : 0;
            dueFields(x, v > 0 ? 1 : 0, 0, v > 0 ? 50 : 0, balance, balance, v, 0);
        }
        CHECK.due("another stream", x.load(1, 0), 0);
        dueFields(x, 0, 0, 0, 0, 0, 0, 0, 0);
        // Folding on from a snapshot must leave the snapshot as it is.
        CHECK.due("load", x.load(0, 5), 1);
        CHECK.due("load", x.load(0, 4), 0);
        CHECK.due("balance", x.field(BALANCE), 9);
        dueSnapshots(x, 0, 6, 4);
        store(x, 0, 3, 3, 0, 0);
        CHECK.due("from a frozen one", x.load(0, 8), 0);
        dueFields(x, 1, 1, 50, 27, 27, 8, 0);
        CHECK.due("from one that is not", x.load(0, 7), 1);
        dueFields(x, 1, 0, 50, 27, 27, 7, 0);
    }

    private static void loadThrows() {
        CHECK.begin("promise 10 (throws)");
        UpcastStreams x = new UpcastStreams(2);
        store(x, 0, 0, 3, 50, 1, 1, 3, 3, 3);
        x.load(0, 2);
        for (int stream : new int[] {-1, 8, MIN, MAX}) {
            CHECK.dueThrow("load(" + stream + ", 0)", IllegalArgumentException.class, () -> x.load(stream, 0));
        }
        for (int version : new int[] {-1, 3, MIN, MAX}) {
            CHECK.dueThrow("load(0, " + version + ")", IllegalArgumentException.class, () -> x.load(0, version));
        }
        CHECK.dueThrow("load(1, 1)", IllegalArgumentException.class, () -> x.load(1, 1));
        dueFields(x, 1, 0, 50, 3, 3, 2, 0);
    }

    private static void field() {
        CHECK.begin("promise 11");
        UpcastStreams x = new UpcastStreams(8);
        store(x, 0, 0, 3, 100, -3, 1, 3, MAX, MIN, 2, 3, 7, -1, 3, 3, -9, MAX);
        long check = 0;
        long[] typeAB = {0, 100, -3, 1, MAX, MIN, 2, 7, -1, 3, -9, MAX};
        long[][] want = {{1, 0, 100, 0, 0, 1}, {1, 0, 100, MAX, MAX, 2}, {1, 0, 100, MAX - 7, MAX, 3},
            {1, 1, 100, MAX - 7, MAX, 4}};
        for (int i = 0; i < 4; i++) {
            check = (check * 31 + typeAB[3 * i] + 7 * typeAB[3 * i + 1]) ^ typeAB[3 * i + 2];
            x.load(0, i + 1);
            dueFields(x, want[i]);
            CHECK.due("odd", x.field(ODD), 0);
            CHECK.due("check", x.field(CHECKSUM), check);
        }
        for (int what : new int[] {-1, 8, MIN, MAX}) {
            CHECK.due("field(" + what + ")", x.field(what), NONE);
        }
        store(x, 1, 0, 3, 4, 0, 1, 3, 6, 0, 2, 3, 6, 0, 5, 3, 0, 0);
        x.load(1, 4);
        dueFields(x, 0, 0, 4, 0, 6, 4, 0);
        store(x, 1, 0, 3, -5, 0, 3, 3, 0, 0, 4, 3, 0, 0);
        x.load(1, 7);
        dueFields(x, 1, 0, -5, 0, 6, 7, 0);
        fieldOfOddEvents();
    }

    /** An odd one adds to ODD alone, and what comes behind it is still folded. */
    private static void fieldOfOddEvents() {
        UpcastStreams x = new UpcastStreams(8);
        store(x, 0, 0, 3, 4, 0, 1, 1, 1, 5, 1, 3, 2, 6);
        x.load(0, 1);
        long check = x.field(CHECKSUM);
        x.learn(1, 1, 2, -1);
        x.load(0, 2);
        dueFields(x, 1, 0, 4, 0, 0, 1, 1, check);
        x.load(0, 3);
        dueFields(x, 1, 0, 4, 2, 2, 2, 1, (check * 31 + 1 + 14) ^ 6);
        // -1 is split into -1, which is odd, and 0, which is not.
        x.learn(1, 2, 4, 0);
        x.load(0, 2);
        dueFields(x, 1, 0, 4, 0, 0, 2, 1, (check * 31 + 1) ^ 5);
    }

    private static void fieldStays() {
        CHECK.begin("promise 11 (what commit loads is not meant)");
        UpcastStreams x = new UpcastStreams(1);
        store(x, 0, 0, 3, 4, 0);
        dueFields(x, 0, 0, 0, 0, 0, 0, 0, 0);
        x.load(0, 1);
        store(x, 0, 1, 3, 4, 0);
        store(x, 0, 1, 3, -4, 0);
        store(x, 1, 0, 3, 9, 9);
        x.learn(0, 1, 6, 0);
        dueFields(x, 1, 0, 4, 0, 0, 1, 0, 28);
    }

    private static void snapshot() {
        CHECK.begin("promise 12");
        UpcastStreams x = new UpcastStreams(1);
        dueSnapshots(x, 0, NONE, NONE);
        store(x, 0, 0, 3, 0, 0);
        dueSnapshots(x, 0, 1, NONE);
        store(x, 0, 3, 3, 0, 0, 4, 3, 0, 0);
        dueSnapshots(x, 0, 3, 1);
        store(x, 0, 3, 3, 0, 0);
        dueSnapshots(x, 0, 4, 3);
        dueSnapshots(x, 7, NONE, NONE);
        for (int wrong : new int[] {-1, 8, MIN, MAX}) {
            CHECK.due("snapshot(" + wrong + ", 0)", x.snapshot(wrong, 0), NONE);
        }
        for (int wrong : new int[] {-1, 2, MIN, MAX}) {
            CHECK.due("snapshot(0, " + wrong + ")", x.snapshot(0, wrong), NONE);
        }
    }

    private static void follow() {
        CHECK.begin("promise 13");
        UpcastStreams x = new UpcastStreams(1);
        store(x, 0, 0, 3, 0, 0, 3, 3, 0, 0, 4, 3, 0, 0);
        for (int r = 0; r < 4; r++) {
            CHECK.dueText("follow", followed(x, r, 1, 63, r), "0");
            CHECK.due("cursor", x.cursor(r), r);
            CHECK.due("the mark is there too", x.done(r), 0);
        }
        x.poll(0, 4);
        CHECK.dueText("follow", followed(x, 0, 1, 63, 2), "0");
        CHECK.due("the mark of the poll is gone", x.done(0), 0);
        CHECK.due("the hand stays", x.hand(2, 0), 2);
        x.poll(0, 4);
        dueHand(x, 2, 0, 4, 0, 0);
        for (int wrong : new int[] {-1, 4, MIN, MAX}) {
            CHECK.dueText("no such reader", followed(x, wrong, 1, 63, 0), "throws.IllegalArgumentException");
            CHECK.dueText("no such position", followed(x, 0, 2, 0, wrong), "throws.IllegalArgumentException");
        }
        CHECK.due("cursor", x.cursor(0), 2);
        CHECK.due("the mark stayed", x.done(0), 1);
        x.follow(0, 1, 63, 0);
        followed(x, 0, 0, 0, 4);
        CHECK.due("the sets stayed", x.poll(0, 4), 3);
    }

    private static void followMasks() {
        CHECK.begin("promise 13 (sets)");
        UpcastStreams x = new UpcastStreams(1);
        for (int s = 0; s < 8; s++) {
            store(x, s, 0, 3, s, 0);
        }
        for (int s = 0; s < 8; s++) {
            x.follow(1, 1 << s, -1, 0);
            CHECK.due("poll", x.poll(1, 4), 1);
            dueHand(x, s, s, 0, s, 0);
        }
        x.follow(1, 256, -1, 0);
        CHECK.due("bit 8 is no stream", x.poll(1, 4), 0);
        x.follow(1, MIN | 0x7fffff00 | 0x81, 0x7fffffc1, 0);
        CHECK.due("higher bits do not matter", x.poll(1, 4), 2);
        dueHand(x, 0, 0, 0, 0, 0, 7, 7, 0, 7, 0);
        x.follow(1, -1, ~63, 0);
        CHECK.due("bits 6 and up are no types", x.poll(1, 4), 0);
        x.follow(1, -1, ~1, 0);
        CHECK.due("no type 0", x.poll(1, 4), 0);
    }

    private static void pollTypes() {
        CHECK.begin("promise 14");
        UpcastStreams x = new UpcastStreams(1);
        store(x, 0, 0, 3, 1, 1, 1, 1, 10, 2, 2, 1, 5, 3, 3, 3, 0, 4);
        store(x, 1, 0, 2, 2, 5, 3, 1, 0, 6);
        x.follow(0, 3, 1 << 1 | 1 << 3, 0);
        CHECK.due("poll", x.poll(0, 2), 2);
        dueHand(x, 1, 0, 1, 10, 2, 3, 0, 3, 0, 4);
        CHECK.due("again", x.poll(0, 3), 3);
        dueHand(x, 1, 0, 1, 10, 2, 3, 0, 3, 0, 4, 5, 1, 3, 0, 6);
        CHECK.due("the cursor stays", x.cursor(0), 0);
        // The types that count are those that come, not those that were stored.
        x.learn(2, 1, 5, 1);
        x.learn(1, 1, 5, 4);
        x.follow(0, 1, 1 << 1, 0);
        CHECK.due("poll", x.poll(0, 4), 1);
        dueHand(x, 2, 0, 1, 5, 3);
        x.learn(2, 2, 6, 0);
        x.learn(1, 2, 4, 0);
        CHECK.due("poll", x.poll(0, 1), 2);
        dueHand(x, 2, 0, 1, 2, 3, 2, 0, 1, 3, 3);
        x.follow(0, 1, 1 << 2, 0);
        CHECK.due("nothing", x.poll(0, 4), 0);
        dueHand(x);
    }

    private static void pollMark() {
        CHECK.begin("promise 14 (the mark)");
        UpcastStreams x = new UpcastStreams(1);
        store(x, 0, 0, 1, 0, 0, 3, 3, 0, 0, 4, 3, 0, 0, 3, 3, 0, 0);
        store(x, 1, 0, 3, 0, 0, 3, 3, 0, 0);
        x.follow(0, 1, 1 << 3, 0);
        CHECK.due("one", x.poll(0, 1), 1);
        CHECK.due("behind the one that was taken", x.done(0), 2);
        CHECK.due("the next one", x.poll(0, 1), 1);
        CHECK.due("done", x.done(0), 2);
        CHECK.due("none", x.poll(0, 1), 0);
        CHECK.due("how many are stored", x.done(0), 2);
        x.follow(0, 1, 1 << 3, 0);
        x.poll(0, 2);
        CHECK.due("just as many: behind the last one", x.done(0), 4);
        x.follow(0, 1, 1 << 3, 0);
        x.poll(0, 3);
        CHECK.due("fewer: how many are stored", x.done(0), 6);
        x.follow(0, 0, 63, 1);
        x.poll(0, 1);
        CHECK.due("no streams", x.done(0), 5);
        x.follow(0, 255, 63, 0);
        x.poll(0, 4);
        x.poll(0, 1);
        CHECK.due("the latest poll counts", x.done(0), 1);
        x.learn(0, 1, 6, 0);
        x.follow(0, 255, 63, 0);
        x.poll(0, 1);
        dueHand(x, 1, 0, 3, 0, 0);
        CHECK.due("what becomes nothing is passed over", x.done(0), 2);
    }

    private static void pollWidest() {
        CHECK.begin("promise 14 (16 in the hand)");
        UpcastStreams x = new UpcastStreams(1);
        store(x, 0, 0, 3, 0, 0);
        for (int i = 0; i < 5; i++) {
            store(x, 0, 1, 1, 4 * i, i);
        }
        x.learn(1, 1, 4, 0);
        x.learn(1, 2, 4, 0);
        x.follow(3, 1, 2, 0);
        CHECK.due("poll", x.poll(3, 4), 16);
        for (int i = 0; i < 16; i++) {
            CHECK.due("position of " + i, x.hand(i, 0), 1 + i / 4);
            CHECK.due("a of " + i, x.hand(i, 3), i / 4);
        }
        CHECK.dueThrow("hand(16, 0)", NoSuchElementException.class, () -> x.hand(16, 0));
        CHECK.due("done", x.done(3), 5);
        CHECK.due("poll", x.poll(3, 4), 4);
        dueHand(x, 5, 0, 1, 4, 4, 5, 0, 1, 4, 4, 5, 0, 1, 4, 4, 5, 0, 1, 4, 4);
    }

    private static void pollThrows() {
        CHECK.begin("promise 14 (throws)");
        UpcastStreams x = new UpcastStreams(1);
        store(x, 0, 0, 3, 7, 8, 3, 3, 0, 0);
        x.follow(0, 1, 63, 0);
        x.poll(0, 1);
        for (int reader : new int[] {-1, 4, MIN, MAX}) {
            CHECK.dueThrow("poll(" + reader + ", 1)", IllegalArgumentException.class, () -> x.poll(reader, 1));
        }
        for (int n : new int[] {-1, 0, 5, MIN, MAX}) {
            CHECK.dueThrow("poll(0, " + n + ")", IllegalArgumentException.class, () -> x.poll(0, n));
        }
        dueHand(x, 0, 0, 0, 7, 8);
        CHECK.due("the mark stayed", x.done(0), 1);
    }

    private static void done() {
        CHECK.begin("promise 15");
        UpcastStreams x = new UpcastStreams(1);
        store(x, 0, 0, 3, 0, 0, 3, 3, 0, 0, 4, 3, 0, 0);
        x.follow(0, 1, 63, 1);
        x.follow(3, 1, 63, 0);
        x.poll(0, 1);
        x.poll(3, 4);
        CHECK.due("done(0)", x.done(0), 1);
        CHECK.due("cursor(0)", x.cursor(0), 2);
        CHECK.due("done(0) again", x.done(0), 0);
        CHECK.due("cursor(0)", x.cursor(0), 2);
        CHECK.due("the hand stays", x.hand(2, 0), 2);
        CHECK.due("done(3)", x.done(3), 3);
        CHECK.due("cursor(3)", x.cursor(3), 3);
        for (int reader : new int[] {-1, 4, MIN, MAX}) {
            CHECK.dueThrow("done(" + reader + ")", IllegalArgumentException.class, () -> x.done(reader));
        }
    }

    private static void cursor() {
        CHECK.begin("promise 16");
        UpcastStreams x = new UpcastStreams(1);
        store(x, 0, 0, 3, 0, 0, 3, 3, 0, 0, 4, 3, 0, 0);
        for (int r = 0; r < 4; r++) {
            CHECK.due("cursor(" + r + ")", x.cursor(r), 0);
        }
        x.follow(2, 1, 63, 3);
        CHECK.due("cursor(2)", x.cursor(2), 3);
        CHECK.due("cursor(1)", x.cursor(1), 0);
        store(x, 0, 3, 3, 0, 0);
        x.poll(2, 1);
        CHECK.due("cursor(2) after a poll", x.cursor(2), 3);
        x.done(2);
        CHECK.due("cursor(2) when done", x.cursor(2), 4);
        for (int reader : new int[] {-1, 4, MIN, MAX}) {
            CHECK.due("cursor(" + reader + ")", x.cursor(reader), NONE);
        }
    }

    private static void hand() {
        CHECK.begin("promise 17");
        UpcastStreams x = new UpcastStreams(1);
        dueHand(x);
        store(x, 4, 0, 1, -6, 5);
        store(x, 2, 0, 3, 8, -9);
        x.follow(1, 255, 63, 0);
        x.follow(2, 4, 63, 0);
        x.poll(1, 4);
        dueHand(x, 0, 4, 0, -6, 5, 1, 2, 0, 8, -9);
        x.poll(2, 4);
        dueHand(x, 1, 2, 0, 8, -9);
        store(x, 2, 3, 3, 0, 0);
        dueHand(x, 1, 2, 0, 8, -9);
        for (int wrong : new int[] {-1, 16, MIN, MAX}) {
            CHECK.dueThrow("hand(" + wrong + ", 0)", NoSuchElementException.class, () -> x.hand(wrong, 0));
        }
        for (int wrong : new int[] {-1, 5, MIN, MAX}) {
            CHECK.dueThrow("hand(0, " + wrong + ")", NoSuchElementException.class, () -> x.hand(0, wrong));
        }
    }
}
