/** The promises 1 to 17: each sentence that names an edge or a wrong input has a test of its own. */
public final class EdgesTest extends Kit {
    public static void main(String[] args) {
        newObjects();
        staging();
        committing();
        committingSnapshots();
        looking();
        learning();
        loading();
        following();
        polling();
        theHand();
        CHECK.end();
    }

    private static void newObjects() {
        nothingIsStored();
        periodsBelow1Are1();
        periodsAbove8Are8();
        periodsFrom1To8AreThemselves();
    }

    private static void staging() {
        stageAnswersFalseWhenThereAre4();
        stageAnswersFalseForWrongTypes();
        stageAnswersFalseForWrongForms();
        stagePutsBehind();
        unstageAnswersHowMany();
        unstageEmpties();
    }

    private static void committing() {
        commitAnswersTheVersion();
        commitStoresInOrder();
        commitEmptiesTheBatch();
        commitAnswersTheFirstMisfit();
        commitFoldsWithThoseBefore();
        commitLooksAtAllThatComes();
        commitOfNothingThatComes();
        commitKeepsARefusedBatch();
        commitLoadsAtTheVersion();
        commitLooksAtTheBatchAlone();
        commitThrowsForNoSuchStream();
        commitThrowsForAnEmptyBatch();
        commitThrowsForAnotherVersion();
        commitTakesAny();
        commitThrowsWhenThereWouldBeMoreThan64();
        commitThrowsTheFirstNamed();
        commitThrowsRatherThanRefuses();
    }

    private static void committingSnapshots() {
        aSnapshotAtThePeriod();
        aSnapshotWhenThePeriodIsPassed();
        oneSnapshotForManyPeriods();
        noSnapshotBetweenPeriods();
        snapshotsGoByTheStreamsVersion();
        aSnapshotHoldsTheStateWithTheBatch();
        aSnapshotHoldsWhatIsOdd();
        noSnapshotOfARefusedBatch();
    }

    private static void looking() {
        versionAnswersNone();
        totalFrom0To64();
        storedThrowsForNoSuchPosition();
        storedThrowsForNoSuchPart();
        storedIsNeverBroughtUp();
        comesThrowsForNoSuchPosition();
        fieldAnswersNone();
        snapshotAnswersNone();
        cursorAnswersNone();
    }

    private static void learning() {
        learnThrowsForWrongTypes();
        learnThrowsForWrongForms();
        learnThrowsForWrongKinds();
        learnThrowsForWrongTypesToBecome();
        learnTakesAnyKForOtherKinds();
        learnDropsAllSnapshots();
        learnEmptiesTheBatchAndTheHand();
        learnOfTheSameRuleEmptiesToo();
        learnKeepsTheRest();
        learnReplacesARule();
    }

    private static void loading() {
        loadThrowsForNoSuchStream();
        loadThrowsForNoSuchVersion();
        loadAnswersHowManyWereFolded();
        fieldTellsOfTheFirstState();
        fieldTellsOfTheLastLoad();
    }

    private static void following() {
        followThrowsForNoSuchReader();
        followThrowsForNoSuchPosition();
        followTakesTheLowest8And6Bits();
        followSetsCursorAndMark();
        followKeepsOtherReadersAndTheHand();
    }

    private static void polling() {
        pollThrowsForNoSuchReader();
        pollThrowsForWrongN();
        pollTakesTheFirstN();
        pollBeginsAtTheCursor();
        pollTakesOnlyWhatHasAType();
        pollPassesOverWhatHasNone();
        pollMarksBehindTheLastOne();
        pollMarksTheEndIfThereAreFewer();
        pollKeepsTheCursor();
        pollOfNothing();
        doneAnswersByHowMuchItGrew();
        doneGoesToTheMarkOfItsTime();
        doneThrowsForNoSuchReader();
    }

    private static void theHand() {
        handThrowsForNoSuchEvent();
        handThrowsForNoSuchPart();
        handStays();
    }

    // Promise 1

    private static void nothingIsStored() {
        CHECK.begin("1: nothing is stored");
        UpcastStreams x = new UpcastStreams(8);
        CHECK.due("total", x.total(), 0);
        for (int s = 0; s < 8; s++) {
            CHECK.due("version of " + s, x.version(s), 0);
            dueSnapshots(x, s, NONE, NONE);
        }
        CHECK.dueText("stored(0, 0)", told(() -> x.stored(0, 0)), NSE);
        CHECK.dueText("comes(0)", told(() -> x.comes(0)), NSE);
        CHECK.dueText("hand(0, 0)", told(() -> x.hand(0, 0)), NSE);
        CHECK.dueText("follow from 1", followed(x, 0, 1, 1, 1), IAE);
        CHECK.dueText("follow from 0", followed(x, 0, 1, 1, 0), "0");
    }

    /** The first version at which one who stores one by one gets a snapshot is the period. */
    private static int periodOf(int given) {
        UpcastStreams x = new UpcastStreams(given);
        for (int v = 1; v <= 20; v++) {
            store(x, 0, v == 1 ? 0 : v % 2 == 0 ? 3 : 4, 3, 0, 0);
            if (x.snapshot(0, 0) != NONE) {
                return v;
            }
        }
        return 0;
    }

    private static void periodsBelow1Are1() {
        CHECK.begin("1: the period is from 1 on");
        for (int given : new int[] {MIN, -8, -1, 0}) {
            CHECK.due("period " + given, periodOf(given), 1);
        }
    }

    private static void periodsAbove8Are8() {
        CHECK.begin("1: the period is up to 8");
        for (int given : new int[] {9, 10, 16, 64, MAX}) {
            CHECK.due("period " + given, periodOf(given), 8);
        }
    }

    private static void periodsFrom1To8AreThemselves() {
        CHECK.begin("1: periods from 1 to 8");
        for (int given = 1; given <= 8; given++) {
            CHECK.due("period " + given, periodOf(given), given);
        }
    }

    // Promises 2 and 3

    private static void stageAnswersFalseWhenThereAre4() {
        CHECK.begin("2: false when there are 4");
        UpcastStreams x = new UpcastStreams(8);
        for (int i = 1; i <= 4; i++) {
            CHECK.due("event " + i, x.stage(0, 3, i, 0), true);
        }
        CHECK.due("event 5", x.stage(0, 3, 5, 0), false);
        CHECK.due("there are 4", x.unstage(), 4);
        CHECK.due("event 1 again", x.stage(0, 3, 1, 0), true);
    }

    private static void stageAnswersFalseForWrongTypes() {
        CHECK.begin("2: false when type is not 0 .. 5");
        for (int form = 1; form <= 3; form++) {
            for (int type : new int[] {MIN, -1, 6, MAX}) {
                UpcastStreams x = new UpcastStreams(8);
                CHECK.due("type " + type, x.stage(type, form, 1, 1), false);
                CHECK.due("it is not there", x.unstage(), 0);
            }
            for (int type = 0; type <= 5; type++) {
                UpcastStreams x = new UpcastStreams(8);
                CHECK.due("type " + type, x.stage(type, form, 1, 1), true);
                CHECK.due("it is there", x.unstage(), 1);
            }
        }
    }

    private static void stageAnswersFalseForWrongForms() {
        CHECK.begin("2: false when form is not 1 .. 3");
        for (int type = 0; type <= 5; type++) {
            for (int form : new int[] {MIN, -1, 0, 4, MAX}) {
                UpcastStreams x = new UpcastStreams(8);
                CHECK.due("form " + form, x.stage(type, form, 1, 1), false);
                CHECK.due("it is not there", x.unstage(), 0);
            }
        }
    }

    private static void stagePutsBehind() {
        CHECK.begin("2: puts an event behind the batch");
        UpcastStreams x = new UpcastStreams(8);
        stageAll(x, 0, 1, 1, 5);
        x.stage(6, 1, 9, 9);
        stageAll(x, 3, 2, 2, 6);
        x.stage(0, 4, 9, 9);
        stageAll(x, 4, 3, 3, 7, 5, 1, 4, 8);
        x.stage(0, 3, 9, 9);
        CHECK.due("commit", x.commit(0, 0), 4);
        dueStored(x, 0, 0, 0, 0, 1, 1, 5);
        dueStored(x, 1, 0, 1, 3, 2, 2, 6);
        dueStored(x, 2, 0, 2, 4, 3, 3, 7);
        dueStored(x, 3, 0, 3, 5, 1, 4, 8);
    }

    private static void unstageAnswersHowMany() {
        CHECK.begin("3: answers how many it had");
        UpcastStreams x = new UpcastStreams(8);
        for (int size = 0; size <= 4; size++) {
            for (int i = 0; i < size; i++) {
                x.stage(1, 1, 0, 0);
            }
            CHECK.due("unstage", x.unstage(), size);
        }
    }

    private static void unstageEmpties() {
        CHECK.begin("3: the batch is empty then");
        UpcastStreams x = new UpcastStreams(8);
        stageAll(x, 0, 3, 9, 9, 3, 3, 9, 9);
        x.unstage();
        CHECK.due("again", x.unstage(), 0);
        CHECK.dueText("commit", told(() -> x.commit(0, 0)), IAE);
        CHECK.due("what is staged then is the first", store(x, 0, 0, 3, 1, 2), 1);
        dueStored(x, 0, 0, 0, 0, 3, 1, 2);
        CHECK.due("total", x.total(), 1);
    }

    // Promise 4

    private static void commitAnswersTheVersion() {
        CHECK.begin("4: answers the stream's version then");
        UpcastStreams x = new UpcastStreams(8);
        int[] types = {0, 3, 4, 5};
        int version = 0;
        for (int size = 1; size <= 4; size++) {
            for (int i = 0; i < size; i++) {
                x.stage(types[(version + i) % 4], 3, 0, 0);
            }
            version += size;
            CHECK.due("commit of " + size, x.commit(0, version - size), version);
            CHECK.due("another stream has its own", store(x, 1, size % 2 == 1 ? 0 : 5, 3, 0, 0), size);
        }
    }

    private static void commitStoresInOrder() {
        CHECK.begin("4: one event after the other");
        UpcastStreams x = new UpcastStreams(8);
        store(x, 6, 0, 3, 1, 0, 3, 2, 2, 0);
        store(x, 1, 0, 1, 3, 0);
        store(x, 6, 4, 3, 4, 0, 5, 1, 5, 0);
        dueStored(x, 0, 6, 0, 0, 3, 1, 0);
        dueStored(x, 1, 6, 1, 3, 2, 2, 0);
        dueStored(x, 2, 1, 0, 0, 1, 3, 0);
        dueStored(x, 3, 6, 2, 4, 3, 4, 0);
        dueStored(x, 4, 6, 3, 5, 1, 5, 0);
    }

    private static void commitEmptiesTheBatch() {
        CHECK.begin("4: the batch is empty then");
        UpcastStreams x = new UpcastStreams(8);
        store(x, 0, 0, 3, 0, 0, 3, 3, 0, 0, 4, 3, 0, 0, 5, 3, 0, 0);
        CHECK.dueText("commit again", told(() -> x.commit(0, ANY)), IAE);
        CHECK.due("unstage", x.unstage(), 0);
    }

    private static void commitAnswersTheFirstMisfit() {
        CHECK.begin("4: -1 - i when event i is the first one that does not fit");
        for (int first = 0; first < 4; first++) {
            UpcastStreams x = new UpcastStreams(8);
            store(x, 0, 0, 3, 0, 0);
            for (int i = 0; i < 4; i++) {
                // From the first one on none fits.
                x.stage(i < first ? 1 : 4, 3, 0, 0);
            }
            CHECK.due("event " + first, x.commit(0, 1), -1 - first);
            CHECK.due("total", x.total(), 1);
        }
        UpcastStreams x = new UpcastStreams(8);
        CHECK.due("the only one", store(x, 0, 5, 3, 0, 0), -1);
        x.unstage();
        CHECK.due("one that fits behind it", store(x, 0, 5, 3, 0, 0, 0, 3, 0, 0), -1);
    }

    private static void commitFoldsWithThoseBefore() {
        CHECK.begin("4: each event is folded into the state with those before it");
        UpcastStreams x = new UpcastStreams(8);
        CHECK.due("each one by the one before", store(x, 0, 0, 3, 0, 0, 1, 3, 3, 0, 2, 3, 3, 0, 5, 3, 0, 0), 4);
        CHECK.due("each one by the one before", store(x, 0, 0, 3, 0, 0, 3, 3, 0, 0, 4, 3, 0, 0), 7);
        CHECK.due("paid out twice", store(x, 0, 1, 3, 3, 0, 2, 3, 2, 0, 2, 3, 2, 0), -3);
    }

    private static void commitLooksAtAllThatComes() {
        CHECK.begin("4: out of which, brought up, something comes that does not fit");
        UpcastStreams x = new UpcastStreams(8);
        x.learn(1, 1, 4, 0);
        x.learn(1, 2, 4, 0);
        x.learn(2, 1, 4, 0);
        x.learn(3, 2, 4, 0);
        x.learn(0, 1, 5, 1);
        store(x, 0, 0, 3, 0, 0);
        CHECK.due("all four fit", store(x, 0, 1, 1, 9, 0), 2);
        CHECK.due("the first of four does not: -1 is -1, 0", store(x, 0, 1, 2, -1, 0), -1);
        x.unstage();
        CHECK.due("the last of two does not", store(x, 0, 1, 3, 0, 0, 3, 2, 0, 0), -2);
        x.unstage();
        CHECK.due("9 is 4 and 5", store(x, 0, 2, 1, 9, 0), 3);
        CHECK.due("1 is 0 and 1, and only the 0 is there", store(x, 0, 2, 1, 1, 0), -1);
        x.unstage();
        CHECK.due("the type that comes is the one that counts", store(x, 0, 0, 1, 4, 0), 4);
        CHECK.due("so here", store(x, 1, 0, 1, 4, 0), -1);
    }

    private static void commitOfNothingThatComes() {
        CHECK.begin("4: what nothing comes of has nothing that does not fit");
        UpcastStreams x = new UpcastStreams(2);
        x.learn(5, 1, 6, 0);
        CHECK.due("commit", store(x, 0, 5, 1, 0, 0, 5, 1, 0, 0, 5, 1, 0, 0), 3);
        CHECK.due("total", x.total(), 3);
        dueStored(x, 2, 0, 2, 5, 1, 0, 0);
        dueSnapshots(x, 0, 3, NONE);
        CHECK.due("load", x.load(0, 3), 0);
        dueFields(x, 0, 0, 0, 0, 0, 0, 0, 0);
    }

    private static void commitKeepsARefusedBatch() {
        CHECK.begin("4: the batch staying and nothing being stored");
        UpcastStreams x = new UpcastStreams(1);
        store(x, 1, 0, 3, 0, 0);
        CHECK.due("the first one does not fit", store(x, 0, 3, 2, 5, 6, 4, 1, 7, 8), -1);
        CHECK.due("nor does it now", x.commit(0, ANY), -1);
        CHECK.due("nothing is stored", x.total(), 1);
        CHECK.due("version", x.version(0), 0);
        CHECK.due("the same batch fits another stream", x.commit(1, 1), 3);
        dueStored(x, 1, 1, 1, 3, 2, 5, 6);
        dueStored(x, 2, 1, 2, 4, 1, 7, 8);
        CHECK.due("the second one does not fit", store(x, 1, 5, 3, 0, 0, 1, 3, 0, 0), -2);
        CHECK.due("the first one is not stored either", x.version(1), 3);
        CHECK.due("total", x.total(), 3);
        CHECK.due("there is room for two more", x.stage(0, 3, 0, 0) && x.stage(0, 3, 0, 0), true);
        CHECK.due("but not for three", x.stage(0, 3, 0, 0), false);
        CHECK.due("unstage", x.unstage(), 4);
    }

    private static void commitLoadsAtTheVersion() {
        CHECK.begin("4: the state of the stream, loaded at its version");
        for (int period = 1; period <= 8; period++) {
            UpcastStreams x = new UpcastStreams(period);
            store(x, 0, 0, 3, 5, 0);
            for (int i = 0; i < 9; i++) {
                store(x, 0, 1, 3, 1, 0);
                // Another stream's state and what load() loaded are not meant.
                x.load(0, 1);
                CHECK.due("one too much", store(x, 0, 2, 3, 5 + i + 2, 0), -1);
                x.unstage();
                CHECK.due("not open", store(x, 1, 2, 3, 0, 0), -1);
                x.unstage();
            }
            CHECK.due("just as much", store(x, 0, 2, 3, 14, 0), 11);
        }
    }

    private static void commitLooksAtTheBatchAlone() {
        CHECK.begin("4: what is odd in the stream already is no event of the batch");
        UpcastStreams x = new UpcastStreams(8);
        store(x, 0, 0, 3, 10, 0, 1, 1, 5, 0);
        x.learn(1, 1, 2, -1);
        CHECK.due("just what the limit leaves", store(x, 0, 2, 3, 4, 0, 2, 3, 6, 0), 4);
        CHECK.due("one more", store(x, 0, 1, 3, 0, 0, 2, 3, 1, 0), -2);
        x.unstage();
        CHECK.due("the event that is odd now would be refused now", store(x, 0, 1, 1, 5, 0), -1);
    }

    private static void commitThrowsForNoSuchStream() {
        CHECK.begin("4: IllegalArgumentException: there is no such stream");
        UpcastStreams x = new UpcastStreams(8);
        stageAll(x, 0, 3, 0, 0);
        for (int stream : new int[] {MIN, -2, -1, 8, 9, MAX}) {
            for (int expected : new int[] {ANY, 0, 1}) {
                CHECK.dueText("stream " + stream, told(() -> x.commit(stream, expected)), IAE);
            }
        }
        CHECK.due("stream 7", x.commit(7, 0), 1);
        CHECK.due("stream 0", store(x, 0, 0, 3, 0, 0), 1);
    }

    private static void commitThrowsForAnEmptyBatch() {
        CHECK.begin("4: IllegalArgumentException: the batch is empty");
        UpcastStreams x = new UpcastStreams(8);
        for (int expected : new int[] {ANY, 0, 1, MIN, MAX}) {
            CHECK.dueText("expected " + expected, told(() -> x.commit(0, expected)), IAE);
        }
        store(x, 0, 0, 3, 0, 0);
        fillOn(x, 0, 63);
        CHECK.dueText("when it is full", told(() -> x.commit(0, 64)), IAE);
    }

    private static void commitThrowsForAnotherVersion() {
        CHECK.begin("4: IllegalStateException: expected is not ANY and not the stream's version");
        UpcastStreams x = new UpcastStreams(8);
        stageAll(x, 0, 3, 0, 0);
        for (int expected : new int[] {MIN, -2, 1, 64, MAX}) {
            CHECK.dueText("expected " + expected, told(() -> x.commit(0, expected)), ISE);
        }
        CHECK.due("expected 0", x.commit(0, 0), 1);
        store(x, 1, 0, 3, 0, 0, 3, 3, 0, 0, 4, 3, 0, 0);
        stageAll(x, 3, 3, 0, 0);
        for (int expected : new int[] {MIN, -2, 0, 1, 2, 4, 5, MAX}) {
            // 1 is the version of another stream, 4 how many are stored, 4 also the version then.
            CHECK.dueText("expected " + expected, told(() -> x.commit(1, expected)), ISE);
        }
        CHECK.due("expected 3", x.commit(1, 3), 4);
    }

    private static void commitTakesAny() {
        CHECK.begin("4: expected may be ANY");
        UpcastStreams x = new UpcastStreams(8);
        for (int v = 1; v <= 10; v++) {
            stageAll(x, v == 1 ? 0 : v % 2 == 0 ? 3 : 4, 3, 0, 0);
            CHECK.due("commit", x.commit(0, ANY), v);
        }
    }

    private static UpcastStreams holding(int count) {
        UpcastStreams x = new UpcastStreams(8);
        store(x, 0, 0, 3, 0, 0);
        fillOn(x, 0, count - 1);
        return x;
    }

    private static void commitThrowsWhenThereWouldBeMoreThan64() {
        CHECK.begin("4: UnsupportedOperationException: there would be more than 64 stored events");
        UpcastStreams x = holding(61);
        stageAll(x, 0, 3, 0, 0, 3, 3, 0, 0, 4, 3, 0, 0, 5, 3, 0, 0);
        CHECK.dueText("61 and 4", told(() -> x.commit(1, 0)), UOE);
        CHECK.due("none of them is stored", x.total(), 61);
        CHECK.due("version", x.version(1), 0);
        CHECK.due("the batch stays", x.unstage(), 4);
        CHECK.due("61 and 3", store(x, 1, 0, 3, 0, 0, 3, 3, 0, 0, 4, 3, 0, 0), 3);
        CHECK.due("total", x.total(), 64);
        stageAll(x, 5, 3, 0, 0);
        CHECK.dueText("64 and 1", told(() -> x.commit(1, 3)), UOE);
        CHECK.dueText("64 and 1", told(() -> x.commit(1, ANY)), UOE);
        CHECK.due("total", x.total(), 64);
        UpcastStreams y = holding(60);
        CHECK.due("60 and 4", store(y, 1, 0, 3, 0, 0, 3, 3, 0, 0, 4, 3, 0, 0, 5, 3, 0, 0), 4);
        UpcastStreams z = holding(64);
        z.learn(3, 1, 6, 0);
        stageAll(z, 3, 1, 0, 0);
        CHECK.dueText("one that nothing comes of is stored too", told(() -> z.commit(0, 64)), UOE);
    }

    private static void commitThrowsTheFirstNamed() {
        CHECK.begin("4: the exception named first is the one if several would do");
        UpcastStreams x = holding(64);
        CHECK.dueText("no stream, empty, another version", told(() -> x.commit(8, 5)), IAE);
        CHECK.dueText("empty, another version", told(() -> x.commit(0, 5)), IAE);
        stageAll(x, 3, 3, 0, 0);
        CHECK.dueText("no stream, another version, more than 64", told(() -> x.commit(-1, 5)), IAE);
        CHECK.dueText("no stream, more than 64", told(() -> x.commit(8, ANY)), IAE);
        CHECK.dueText("another version, more than 64", told(() -> x.commit(0, 63)), ISE);
        CHECK.dueText("another version, more than 64", told(() -> x.commit(1, 64)), ISE);
        CHECK.dueText("more than 64", told(() -> x.commit(0, 64)), UOE);
    }

    private static void commitThrowsRatherThanRefuses() {
        CHECK.begin("4: what throws is not folded");
        UpcastStreams x = holding(64);
        stageAll(x, 0, 3, 0, 0);
        CHECK.dueText("more than 64, and it does not fit", told(() -> x.commit(0, 64)), UOE);
        CHECK.dueText("another version, and it does not fit", told(() -> x.commit(0, 1)), ISE);
        CHECK.dueText("no stream, and it does not fit", told(() -> x.commit(8, 64)), IAE);
    }

    private static void aSnapshotAtThePeriod() {
        CHECK.begin("4: a snapshot when the version divided by the period is more than before");
        UpcastStreams x = new UpcastStreams(3);
        int[] later = {NONE, NONE, NONE, 3, 3, 3, 6, 6, 6, 9, 9, 9, 12};
        int[] earlier = {NONE, NONE, NONE, NONE, NONE, NONE, 3, 3, 3, 6, 6, 6, 9};
        for (int v = 1; v <= 12; v++) {
            store(x, 0, v == 1 ? 0 : v % 2 == 0 ? 3 : 4, 3, 0, 0);
            dueSnapshots(x, 0, later[v], earlier[v]);
        }
    }

    private static void aSnapshotWhenThePeriodIsPassed() {
        CHECK.begin("4: a snapshot at the new version, not at the period");
        UpcastStreams x = new UpcastStreams(8);
        store(x, 0, 0, 3, 0, 0, 3, 3, 0, 0, 4, 3, 0, 0);
        store(x, 0, 3, 3, 0, 0, 4, 3, 0, 0, 3, 3, 0, 0, 4, 3, 0, 0);
        dueSnapshots(x, 0, NONE, NONE);
        CHECK.due("from 7 to 11", store(x, 0, 3, 3, 0, 0, 4, 3, 0, 0, 3, 3, 0, 0, 4, 3, 0, 0), 11);
        dueSnapshots(x, 0, 11, NONE);
        CHECK.due("from 11 to 15", store(x, 0, 3, 3, 0, 0, 4, 3, 0, 0, 3, 3, 0, 0, 4, 3, 0, 0), 15);
        dueSnapshots(x, 0, 11, NONE);
        CHECK.due("from 15 to 16", store(x, 0, 3, 3, 0, 0), 16);
        dueSnapshots(x, 0, 16, 11);
        CHECK.due("load at 15", x.load(0, 15), 4);
        CHECK.due("load at 10", x.load(0, 10), 10);
    }

    private static void oneSnapshotForManyPeriods() {
        CHECK.begin("4: one snapshot, however many periods a batch passes");
        UpcastStreams x = new UpcastStreams(1);
        store(x, 0, 0, 3, 0, 0, 3, 3, 0, 0, 4, 3, 0, 0, 3, 3, 0, 0);
        dueSnapshots(x, 0, 4, NONE);
        store(x, 0, 4, 3, 0, 0, 3, 3, 0, 0);
        dueSnapshots(x, 0, 6, 4);
        UpcastStreams y = new UpcastStreams(2);
        store(y, 0, 0, 3, 0, 0);
        store(y, 0, 3, 3, 0, 0, 4, 3, 0, 0, 3, 3, 0, 0);
        dueSnapshots(y, 0, 4, NONE);
    }

    private static void noSnapshotBetweenPeriods() {
        CHECK.begin("4: no snapshot when the version divided by the period is the same as before");
        UpcastStreams x = new UpcastStreams(5);
        store(x, 0, 0, 3, 0, 0, 3, 3, 0, 0, 4, 3, 0, 0, 3, 3, 0, 0);
        dueSnapshots(x, 0, NONE, NONE);
        store(x, 0, 4, 3, 0, 0);
        dueSnapshots(x, 0, 5, NONE);
        store(x, 0, 3, 3, 0, 0, 4, 3, 0, 0, 3, 3, 0, 0, 4, 3, 0, 0);
        dueSnapshots(x, 0, 5, NONE);
        CHECK.due("load at 9", x.load(0, 9), 4);
    }

    private static void snapshotsGoByTheStreamsVersion() {
        CHECK.begin("4: the version is that of the stream, not how many are stored");
        UpcastStreams x = new UpcastStreams(2);
        for (int s = 0; s < 8; s++) {
            store(x, s, 0, 3, 0, 0);
            dueSnapshots(x, s, NONE, NONE);
        }
        store(x, 5, 3, 3, 0, 0);
        for (int s = 0; s < 8; s++) {
            dueSnapshots(x, s, s == 5 ? 2 : NONE, NONE);
        }
    }

    private static void aSnapshotHoldsTheStateWithTheBatch() {
        CHECK.begin("4: a snapshot of the state at the new version");
        UpcastStreams x = new UpcastStreams(2);
        store(x, 0, 0, 3, 5, 1, 1, 3, 7, 2, 3, 3, 0, 3);
        CHECK.due("load", x.load(0, 3), 0);
        dueFields(x, 1, 1, 5, 7, 7, 3, 0, snapshotCheck());
        x.load(1, 0);
        store(x, 0, 4, 3, 0, 4, 2, 3, 12, 5);
        CHECK.due("load", x.load(0, 5), 0);
        dueFields(x, 1, 0, 5, -5, 7, 5, 0);
        CHECK.due("load at the earlier one", x.load(0, 3), 0);
        dueFields(x, 1, 1, 5, 7, 7, 3, 0, snapshotCheck());
    }

    private static void aSnapshotHoldsWhatIsOdd() {
        CHECK.begin("4: a snapshot of the state, ODD too");
        UpcastStreams x = new UpcastStreams(3);
        store(x, 0, 0, 3, 10, 0, 1, 1, 5, 0);
        x.learn(1, 1, 2, -1);
        store(x, 0, 2, 3, 10, 0);
        dueSnapshots(x, 0, 3, NONE);
        x.load(1, 0);
        CHECK.due("load", x.load(0, 3), 0);
        dueFields(x, 1, 0, 10, -10, 0, 2, 1);
        store(x, 0, 1, 3, 1, 0);
        CHECK.due("load on from it", x.load(0, 4), 1);
        dueFields(x, 1, 0, 10, -9, 0, 3, 1);
    }

    private static long snapshotCheck() {
        long first = (7 * 5) ^ 1;
        long second = (first * 31 + 1 + 7 * 7) ^ 2;
        return (second * 31 + 3) ^ 3;
    }

    private static void noSnapshotOfARefusedBatch() {
        CHECK.begin("4: no snapshot of what is refused");
        UpcastStreams x = new UpcastStreams(1);
        store(x, 0, 0, 3, 5, 0);
        CHECK.due("the fourth one does not fit", store(x, 0, 1, 3, 5, 0, 1, 3, 5, 0, 1, 3, 5, 0, 4, 3, 0, 0), -4);
        dueSnapshots(x, 0, 1, NONE);
        CHECK.due("load", x.load(0, 1), 0);
        dueFields(x, 1, 0, 5, 0, 0, 1, 0);
        x.unstage();
        CHECK.due("what was tried is not there", store(x, 0, 2, 3, 6, 0), -1);
    }

    // Promises 5 to 7, 9, 11, 12 and 16

    private static void versionAnswersNone() {
        CHECK.begin("5: NONE when there is none such");
        UpcastStreams x = new UpcastStreams(8);
        store(x, 0, 0, 3, 0, 0);
        store(x, 7, 0, 3, 0, 0, 3, 3, 0, 0);
        for (int s : new int[] {MIN, -1, 8, MAX}) {
            CHECK.due("version of " + s, x.version(s), NONE);
        }
        CHECK.due("version of 0", x.version(0), 1);
        CHECK.due("version of 7", x.version(7), 2);
        CHECK.due("version of 1", x.version(1), 0);
    }

    private static void totalFrom0To64() {
        CHECK.begin("6: how many events are stored");
        UpcastStreams x = new UpcastStreams(8);
        CHECK.due("none", x.total(), 0);
        stageAll(x, 0, 3, 0, 0, 3, 3, 0, 0);
        CHECK.due("a batch is not stored", x.total(), 0);
        x.commit(3, 0);
        CHECK.due("two", x.total(), 2);
        store(x, 4, 0, 3, 0, 0);
        CHECK.due("those of all streams", x.total(), 3);
        fillOn(x, 3, 61);
        CHECK.due("full", x.total(), 64);
    }

    private static void storedThrowsForNoSuchPosition() {
        CHECK.begin("7: NoSuchElementException: there is none");
        UpcastStreams x = new UpcastStreams(8);
        CHECK.dueText("when nothing is stored", told(() -> x.stored(0, 0)), NSE);
        store(x, 3, 0, 3, 0, 0, 3, 3, 0, 0);
        for (int p : new int[] {MIN, -1, 2, 3, 63, 64, MAX}) {
            for (int part = 0; part <= 5; part++) {
                int asked = part;
                CHECK.dueText("stored(" + p + ", " + part + ")", told(() -> x.stored(p, asked)), NSE);
            }
        }
        dueStored(x, 0, 3, 0, 0, 3, 0, 0);
        dueStored(x, 1, 3, 1, 3, 3, 0, 0);
        UpcastStreams full = holding(64);
        dueStored(full, 63, 0, 63, 3, 3, 0, 0);
        CHECK.dueText("stored(64, 0)", told(() -> full.stored(64, 0)), NSE);
    }

    private static void storedThrowsForNoSuchPart() {
        CHECK.begin("7: NoSuchElementException: no such part");
        UpcastStreams x = new UpcastStreams(8);
        store(x, 3, 0, 2, 8, 9);
        for (int part : new int[] {MIN, -1, 6, 7, MAX}) {
            CHECK.dueText("stored(0, " + part + ")", told(() -> x.stored(0, part)), NSE);
            CHECK.dueText("stored(1, " + part + ")", told(() -> x.stored(1, part)), NSE);
        }
        dueStored(x, 0, 3, 0, 0, 2, 8, 9);
    }

    private static void storedIsNeverBroughtUp() {
        CHECK.begin("7: the event as it is stored");
        UpcastStreams x = new UpcastStreams(8);
        x.learn(0, 1, 2, 3);
        store(x, 3, 0, 1, 8, 9);
        dueStored(x, 0, 3, 0, 0, 1, 8, 9);
        x.load(3, 1);
        CHECK.due("limit", x.field(LIMIT), 24);
        x.learn(0, 1, 6, 0);
        dueStored(x, 0, 3, 0, 0, 1, 8, 9);
    }

    private static void comesThrowsForNoSuchPosition() {
        CHECK.begin("9: NoSuchElementException: there is none");
        UpcastStreams x = new UpcastStreams(8);
        CHECK.dueText("when nothing is stored", told(() -> x.comes(0)), NSE);
        store(x, 3, 0, 3, 0, 0, 3, 3, 0, 0);
        for (int p : new int[] {MIN, -1, 2, 3, 63, 64, MAX}) {
            CHECK.dueText("comes(" + p + ")", told(() -> x.comes(p)), NSE);
        }
        CHECK.due("comes(0)", x.comes(0), 1);
        CHECK.due("comes(1)", x.comes(1), 1);
        UpcastStreams full = holding(64);
        CHECK.due("comes(63)", full.comes(63), 1);
        CHECK.dueText("comes(64)", told(() -> full.comes(64)), NSE);
    }

    private static void fieldAnswersNone() {
        CHECK.begin("11: NONE for another number");
        UpcastStreams x = new UpcastStreams(8);
        store(x, 0, 0, 3, 5, 1, 1, 3, 7, 2, 3, 3, 0, 3);
        x.load(0, 3);
        for (int what : new int[] {MIN, -2, -1, 8, 9, MAX}) {
            CHECK.due("field(" + what + ")", x.field(what), NONE);
        }
        CHECK.due("field(0)", x.field(OPEN), 1);
        CHECK.due("field(1)", x.field(FROZEN), 1);
        CHECK.due("field(7)", x.field(CHECKSUM), snapshotCheck());
    }

    private static void snapshotAnswersNone() {
        CHECK.begin("12: NONE when there is none");
        UpcastStreams x = new UpcastStreams(1);
        dueSnapshots(x, 0, NONE, NONE);
        store(x, 0, 0, 3, 0, 0);
        dueSnapshots(x, 0, 1, NONE);
        store(x, 0, 3, 3, 0, 0);
        store(x, 7, 0, 3, 0, 0);
        dueSnapshots(x, 0, 2, 1);
        dueSnapshots(x, 7, 1, NONE);
        for (int wrong : new int[] {MIN, -1, 8, MAX}) {
            dueSnapshots(x, wrong, NONE, NONE);
        }
        for (int wrong : new int[] {MIN, -1, 2, 3, MAX}) {
            CHECK.due("snapshot(0, " + wrong + ")", x.snapshot(0, wrong), NONE);
            CHECK.due("snapshot(7, " + wrong + ")", x.snapshot(7, wrong), NONE);
        }
    }

    private static void cursorAnswersNone() {
        CHECK.begin("16: NONE when there is none such");
        UpcastStreams x = holding(4);
        for (int r = 0; r < 4; r++) {
            x.follow(r, 1, 1, r + 1);
        }
        for (int r : new int[] {MIN, -1, 4, MAX}) {
            CHECK.due("cursor(" + r + ")", x.cursor(r), NONE);
        }
        for (int r = 0; r < 4; r++) {
            CHECK.due("cursor(" + r + ")", x.cursor(r), r + 1);
        }
    }

    // Promise 8

    private static void learnThrowsForWrongTypes() {
        CHECK.begin("8: IllegalArgumentException: type is not 0 .. 5");
        for (int type : new int[] {MIN, -1, 0, 5, 6, MAX}) {
            UpcastStreams x = new UpcastStreams(8);
            String due = type == 0 || type == 5 ? "0" : IAE;
            CHECK.dueText("type " + type, learned(x, type, 1, 6, 0), due);
            CHECK.dueText("type " + type, learned(x, type, 2, 0, 0), due);
        }
    }

    private static void learnThrowsForWrongForms() {
        CHECK.begin("8: IllegalArgumentException: form is not 1 or 2");
        for (int form : new int[] {MIN, -1, 0, 1, 2, 3, 4, MAX}) {
            UpcastStreams x = new UpcastStreams(8);
            String due = form == 1 || form == 2 ? "0" : IAE;
            CHECK.dueText("form " + form, learned(x, 0, form, 6, 0), due);
            CHECK.dueText("form " + form, learned(x, 5, form, 0, 0), due);
        }
    }

    private static void learnThrowsForWrongKinds() {
        CHECK.begin("8: IllegalArgumentException: kind is not 0 .. 6");
        for (int kind : new int[] {MIN, -1, 0, 1, 2, 3, 4, 5, 6, 7, MAX}) {
            UpcastStreams x = new UpcastStreams(8);
            CHECK.dueText("kind " + kind, learned(x, 0, 1, kind, 0), kind >= 0 && kind <= 6 ? "0" : IAE);
        }
    }

    private static void learnThrowsForWrongTypesToBecome() {
        CHECK.begin("8: IllegalArgumentException: kind is 5 and k is not 0 .. 5");
        for (int k : new int[] {MIN, -1, 0, 1, 2, 3, 4, 5, 6, MAX}) {
            UpcastStreams x = new UpcastStreams(8);
            String due = k >= 0 && k <= 5 ? "0" : IAE;
            CHECK.dueText("k " + k, learned(x, 0, 1, 5, k), due);
            CHECK.dueText("k " + k, learned(x, 5, 2, 5, k), due);
        }
    }

    private static void learnTakesAnyKForOtherKinds() {
        CHECK.begin("8: only kind 5 looks at k");
        for (int kind = 0; kind <= 6; kind++) {
            for (int k : new int[] {MIN, -1, 6, MAX}) {
                CHECK.dueText("kind " + kind, learned(new UpcastStreams(8), 0, 1, kind, k), kind == 5 ? IAE : "0");
            }
        }
    }

    private static void learnDropsAllSnapshots() {
        CHECK.begin("8: all snapshots of all streams are gone");
        UpcastStreams x = new UpcastStreams(1);
        for (int s = 0; s < 8; s++) {
            store(x, s, 0, 3, 0, 0);
            store(x, s, 3, 3, 0, 0);
            dueSnapshots(x, s, 2, 1);
        }
        x.learn(5, 2, 6, 0);
        for (int s = 0; s < 8; s++) {
            dueSnapshots(x, s, NONE, NONE);
            CHECK.due("load", x.load(s, 2), 2);
        }
        store(x, 3, 4, 3, 0, 0);
        dueSnapshots(x, 3, 3, NONE);
        CHECK.due("below the new one there is none", x.load(3, 2), 2);
    }

    private static void learnEmptiesTheBatchAndTheHand() {
        CHECK.begin("8: the batch and the hand are empty");
        UpcastStreams x = new UpcastStreams(8);
        store(x, 0, 0, 3, 0, 0, 3, 3, 0, 0);
        x.follow(0, 1, 63, 0);
        CHECK.due("poll", x.poll(0, 4), 2);
        stageAll(x, 4, 3, 0, 0, 3, 3, 0, 0);
        x.learn(1, 1, 4, 0);
        CHECK.dueText("hand", told(() -> x.hand(0, 0)), NSE);
        CHECK.dueText("commit", told(() -> x.commit(0, 2)), IAE);
        CHECK.due("unstage", x.unstage(), 0);
    }

    private static void learnOfTheSameRuleEmptiesToo() {
        CHECK.begin("8: a rule that is learned again, or was there at first, is no other case");
        UpcastStreams x = new UpcastStreams(1);
        for (int i = 0; i < 3; i++) {
            store(x, 0, i == 0 ? 0 : i == 1 ? 3 : 4, 3, 0, 0);
            x.follow(0, 1, 63, 0);
            x.poll(0, 1);
            stageAll(x, 3, 3, 0, 0);
            x.learn(1, 1, 0, 0);
            dueSnapshots(x, 0, NONE, NONE);
            dueHand(x);
            CHECK.due("unstage", x.unstage(), 0);
        }
    }

    private static void learnKeepsTheRest() {
        CHECK.begin("8: what is not named stays");
        UpcastStreams x = new UpcastStreams(3);
        store(x, 0, 0, 1, 4, 0, 1, 1, 6, 0);
        x.load(0, 2);
        x.follow(1, 1, 63, 1);
        x.poll(1, 4);
        x.learn(0, 1, 6, 0);
        dueFields(x, 1, 0, 4, 6, 6, 2, 0);
        CHECK.due("cursor", x.cursor(1), 1);
        CHECK.due("the mark", x.done(1), 1);
        CHECK.due("total", x.total(), 2);
        CHECK.due("version", x.version(0), 2);
        dueStored(x, 0, 0, 0, 0, 1, 4, 0);
        x.learn(0, 1, 0, 0);
        CHECK.due("the period: 3 / 3 is more than 2 / 3", store(x, 0, 1, 3, 1, 0), 3);
        dueSnapshots(x, 0, 3, NONE);
    }

    private static void learnReplacesARule() {
        CHECK.begin("8: the rule gets this kind and k");
        UpcastStreams x = new UpcastStreams(8);
        store(x, 0, 0, 1, 4, 3);
        x.follow(0, 1, 63, 0);
        x.learn(0, 1, 2, 5);
        x.poll(0, 1);
        dueHand(x, 0, 0, 0, 20, 3);
        x.learn(0, 1, 2, -5);
        x.poll(0, 1);
        dueHand(x, 0, 0, 0, -20, 3);
        x.learn(0, 1, 3, -6);
        x.poll(0, 1);
        dueHand(x, 0, 0, 0, 4, -6);
        x.learn(0, 1, 0, 0);
        x.poll(0, 1);
        dueHand(x, 0, 0, 0, 4, 3);
    }

    // Promises 10 and 11

    private static void loadThrowsForNoSuchStream() {
        CHECK.begin("10: IllegalArgumentException: there is no such stream");
        UpcastStreams x = new UpcastStreams(8);
        for (int s : new int[] {MIN, -1, 8, MAX}) {
            CHECK.dueText("load(" + s + ", 0)", told(() -> x.load(s, 0)), IAE);
            CHECK.dueText("load(" + s + ", -1)", told(() -> x.load(s, -1)), IAE);
        }
        for (int s = 0; s < 8; s++) {
            CHECK.due("load(" + s + ", 0)", x.load(s, 0), 0);
        }
    }

    private static void loadThrowsForNoSuchVersion() {
        CHECK.begin("10: IllegalArgumentException: version is not from 0 to the stream's");
        UpcastStreams x = new UpcastStreams(8);
        store(x, 1, 0, 3, 0, 0, 3, 3, 0, 0, 4, 3, 0, 0);
        for (int v : new int[] {MIN, -1, 1, 3, 64, MAX}) {
            CHECK.dueText("load(0, " + v + ")", told(() -> x.load(0, v)), IAE);
        }
        for (int v : new int[] {MIN, -1, 4, 5, 64, MAX}) {
            CHECK.dueText("load(1, " + v + ")", told(() -> x.load(1, v)), IAE);
        }
        for (int v = 0; v <= 3; v++) {
            CHECK.due("load(1, " + v + ")", x.load(1, v), v);
        }
        UpcastStreams full = holding(64);
        CHECK.due("load(0, 64)", full.load(0, 64), 0);
        CHECK.dueText("load(0, 65)", told(() -> full.load(0, 65)), IAE);
    }

    private static void loadAnswersHowManyWereFolded() {
        CHECK.begin("10: answers how many events were folded");
        UpcastStreams x = new UpcastStreams(4);
        fill(x, 0, 11);
        dueSnapshots(x, 0, 8, 4);
        int[] folded = {0, 1, 2, 3, 0, 1, 2, 3, 0, 1, 2, 3};
        for (int v = 0; v <= 11; v++) {
            CHECK.due("load(0, " + v + ")", x.load(0, v), folded[v]);
            CHECK.due("moves", x.field(MOVES), v);
        }
        x.learn(3, 1, 4, 0);
        for (int v = 0; v <= 11; v++) {
            CHECK.due("load(0, " + v + ") without snapshots", x.load(0, v), v);
            CHECK.due("moves", x.field(MOVES), v);
        }
    }

    private static void fieldTellsOfTheFirstState() {
        CHECK.begin("11: the first state, if none was loaded");
        UpcastStreams x = new UpcastStreams(1);
        dueFields(x, 0, 0, 0, 0, 0, 0, 0, 0);
        store(x, 0, 0, 3, 5, 5, 1, 3, 6, 6);
        CHECK.due("refused", store(x, 0, 4, 3, 0, 0), -1);
        CHECK.dueText("load that throws", told(() -> x.load(0, 3)), IAE);
        x.follow(0, 1, 63, 0);
        x.poll(0, 2);
        dueFields(x, 0, 0, 0, 0, 0, 0, 0, 0);
    }

    private static void fieldTellsOfTheLastLoad() {
        CHECK.begin("10: field() tells of that state until load() is called again");
        UpcastStreams x = new UpcastStreams(1);
        store(x, 0, 0, 3, 5, 0);
        x.load(0, 1);
        store(x, 0, 1, 3, 6, 0);
        store(x, 1, 0, 3, 7, 0);
        dueFields(x, 1, 0, 5, 0, 0, 1, 0);
        CHECK.dueText("load that throws", told(() -> x.load(1, 2)), IAE);
        dueFields(x, 1, 0, 5, 0, 0, 1, 0);
        x.load(1, 1);
        dueFields(x, 1, 0, 7, 0, 0, 1, 0);
        x.load(0, 2);
        dueFields(x, 1, 0, 5, 6, 6, 2, 0);
        x.load(0, 0);
        dueFields(x, 0, 0, 0, 0, 0, 0, 0, 0);
    }

    // Promise 13

    private static void followThrowsForNoSuchReader() {
        CHECK.begin("13: IllegalArgumentException: there is no such reader");
        UpcastStreams x = holding(3);
        for (int r : new int[] {MIN, -1, 4, MAX}) {
            CHECK.dueText("reader " + r, followed(x, r, 1, 63, 0), IAE);
            CHECK.dueText("reader " + r, followed(x, r, 1, 63, 4), IAE);
        }
        for (int r = 0; r < 4; r++) {
            CHECK.dueText("reader " + r, followed(x, r, 1, 63, 0), "0");
        }
    }

    private static void followThrowsForNoSuchPosition() {
        CHECK.begin("13: IllegalArgumentException: from is not from 0 to how many events are stored");
        UpcastStreams none = new UpcastStreams(8);
        CHECK.dueText("0 of 0", followed(none, 0, 1, 63, 0), "0");
        CHECK.dueText("1 of 0", followed(none, 0, 1, 63, 1), IAE);
        UpcastStreams x = holding(3);
        for (int from : new int[] {MIN, -1, 4, 5, 64, MAX}) {
            CHECK.dueText("from " + from, followed(x, 0, 1, 63, from), IAE);
        }
        for (int from = 0; from <= 3; from++) {
            CHECK.dueText("from " + from, followed(x, 0, 1, 63, from), "0");
            CHECK.due("poll", x.poll(0, 4), 3 - from);
        }
        UpcastStreams full = holding(64);
        CHECK.dueText("64 of 64", followed(full, 3, 1, 63, 64), "0");
        CHECK.due("poll at the end", full.poll(3, 4), 0);
        CHECK.due("done at the end", full.done(3), 0);
        CHECK.dueText("65 of 64", followed(full, 3, 1, 63, 65), IAE);
    }

    private static void followTakesTheLowest8And6Bits() {
        CHECK.begin("13: the lowest 8 and 6 bits");
        UpcastStreams x = new UpcastStreams(8);
        for (int s = 0; s < 8; s++) {
            store(x, s, 0, 1, 0, s);
        }
        for (int bit = 0; bit < 32; bit++) {
            x.follow(0, 1 << bit, 1, 0);
            CHECK.due("stream bit " + bit, x.poll(0, 4), bit < 8 ? 1 : 0);
            if (bit < 8) {
                CHECK.due("its stream", x.hand(0, 1), bit);
            }
        }
        for (int type = 0; type < 6; type++) {
            x.learn(0, 1, 5, type);
            for (int bit = 0; bit < 32; bit++) {
                x.follow(0, 1, 1 << bit, 0);
                CHECK.due("type " + type + ", bit " + bit, x.poll(0, 1), bit == type ? 1 : 0);
            }
        }
    }

    private static void followSetsCursorAndMark() {
        CHECK.begin("13: its cursor and mark become from");
        UpcastStreams x = holding(8);
        x.follow(2, 1, 63, 0);
        x.poll(2, 4);
        x.follow(2, 1, 63, 6);
        CHECK.due("cursor", x.cursor(2), 6);
        CHECK.due("mark", x.done(2), 0);
        CHECK.due("cursor", x.cursor(2), 6);
        x.follow(2, 1, 63, 1);
        CHECK.due("back", x.cursor(2), 1);
        CHECK.due("mark", x.done(2), 0);
        CHECK.due("cursor", x.cursor(2), 1);
    }

    private static void followKeepsOtherReadersAndTheHand() {
        CHECK.begin("13: a reader, and nothing else");
        UpcastStreams x = holding(8);
        x.follow(0, 1, 63, 2);
        x.follow(1, 1, 63, 3);
        x.poll(0, 2);
        x.follow(1, 0, 0, 5);
        dueHand(x, 2, 0, 4, 0, 0, 3, 0, 3, 0, 0);
        CHECK.due("the other mark", x.done(0), 2);
        CHECK.due("the other cursor", x.cursor(0), 4);
        CHECK.due("the other sets", x.poll(0, 4), 4);
    }

    // Promises 14 and 15

    private static void pollThrowsForNoSuchReader() {
        CHECK.begin("14: IllegalArgumentException: there is no such reader");
        UpcastStreams x = holding(3);
        for (int r : new int[] {MIN, -1, 4, MAX}) {
            CHECK.dueText("poll(" + r + ", 1)", told(() -> x.poll(r, 1)), IAE);
            CHECK.dueText("poll(" + r + ", 0)", told(() -> x.poll(r, 0)), IAE);
        }
        for (int r = 0; r < 4; r++) {
            CHECK.due("poll(" + r + ", 1)", x.poll(r, 1), 0);
        }
    }

    private static void pollThrowsForWrongN() {
        CHECK.begin("14: IllegalArgumentException: n is not 1 .. 4");
        UpcastStreams x = holding(8);
        x.follow(0, 1, 63, 0);
        for (int n : new int[] {MIN, -1, 0, 5, 6, MAX}) {
            CHECK.dueText("poll(0, " + n + ")", told(() -> x.poll(0, n)), IAE);
        }
        for (int n = 1; n <= 4; n++) {
            CHECK.due("poll(0, " + n + ")", x.poll(0, n), n);
        }
    }

    /** Positions 0 to 11, streams 0 1 2 0 1 2 .., types 0 0 0 3 3 3 4 4 4 5 5 5, and a is the position. */
    private static UpcastStreams threeStreams() {
        UpcastStreams x = new UpcastStreams(8);
        int[] types = {0, 3, 4, 5};
        for (int p = 0; p < 12; p++) {
            store(x, p % 3, types[p / 3], 1, p, 0);
        }
        return x;
    }

    private static void duePositions(UpcastStreams x, int... want) {
        for (int i = 0; i < want.length; i++) {
            CHECK.due("position of " + i, x.hand(i, 0), want[i]);
            CHECK.due("stream of " + i, x.hand(i, 1), want[i] % 3);
            CHECK.due("a of " + i, x.hand(i, 3), want[i]);
        }
        CHECK.dueText("behind the last one", told(() -> x.hand(want.length, 0)), NSE);
    }

    private static void pollTakesTheFirstN() {
        CHECK.begin("14: of the first n stored events, of streams in its set");
        UpcastStreams x = threeStreams();
        x.follow(0, 1 << 1 | 1 << 2, 63, 0);
        x.poll(0, 1);
        duePositions(x, 1);
        x.poll(0, 2);
        duePositions(x, 1, 2);
        x.poll(0, 4);
        duePositions(x, 1, 2, 4, 5);
        x.follow(0, 1 << 0, 1 << 3 | 1 << 5, 0);
        x.poll(0, 1);
        duePositions(x, 3);
        CHECK.due("or of as many as there are", x.poll(0, 4), 2);
        duePositions(x, 3, 9);
    }

    private static void pollBeginsAtTheCursor() {
        CHECK.begin("14: at the reader's cursor or behind");
        UpcastStreams x = threeStreams();
        for (int from = 0; from < 12; from++) {
            x.follow(0, 255, 63, from);
            x.poll(0, 1);
            duePositions(x, from);
        }
        x.follow(0, 255, 63, 12);
        CHECK.due("behind all", x.poll(0, 4), 0);
    }

    private static void pollTakesOnlyWhatHasAType() {
        CHECK.begin("14: only what has a type in the set is taken");
        UpcastStreams x = threeStreams();
        x.follow(0, 255, 1 << 4, 0);
        CHECK.due("poll", x.poll(0, 4), 3);
        duePositions(x, 6, 7, 8);
        x.learn(3, 1, 5, 4);
        x.learn(4, 1, 5, 3);
        CHECK.due("the type that comes", x.poll(0, 4), 3);
        duePositions(x, 3, 4, 5);
        x.learn(3, 1, 4, 0);
        x.follow(0, 1, 1 << 3, 0);
        CHECK.due("two come of the first one", x.poll(0, 1), 2);
        dueHand(x, 3, 0, 3, 1, 0, 3, 0, 3, 2, 0);
        CHECK.due("n counts stored events", x.poll(0, 2), 3);
        dueHand(x, 3, 0, 3, 1, 0, 3, 0, 3, 2, 0, 6, 0, 3, 6, 0);
    }

    private static void pollPassesOverWhatHasNone() {
        CHECK.begin("14: out of which something comes with a type in its other set");
        UpcastStreams x = threeStreams();
        x.learn(3, 1, 6, 0);
        x.follow(0, 255, 63, 2);
        CHECK.due("what nothing comes of does not count", x.poll(0, 2), 2);
        duePositions(x, 2, 6);
        CHECK.due("the mark", x.done(0), 5);
        x.follow(0, 255, 1 << 3, 0);
        CHECK.due("none", x.poll(0, 4), 0);
        CHECK.due("the mark", x.done(0), 12);
    }

    private static void pollMarksBehindTheLastOne() {
        CHECK.begin("14: the mark becomes the position behind the last one of these");
        UpcastStreams x = threeStreams();
        int[] behind = {0, 2, 5, 8, 11};
        for (int n = 1; n <= 4; n++) {
            x.follow(0, 1 << 1, 63, 0);
            x.poll(0, n);
            CHECK.due("just n: mark of " + n, x.done(0), behind[n]);
        }
        x.follow(0, 255, 63, 8);
        x.poll(0, 4);
        CHECK.due("the last one of all", x.done(0), 4);
        x.follow(0, 255, 63, 3);
        x.poll(0, 1);
        CHECK.due("just behind the cursor", x.done(0), 1);
    }

    private static void pollMarksTheEndIfThereAreFewer() {
        CHECK.begin("14: or how many events are stored if there are fewer than n");
        UpcastStreams x = threeStreams();
        x.follow(0, 1, 1, 0);
        x.poll(0, 1);
        CHECK.due("just 1", x.done(0), 1);
        x.follow(0, 1, 1, 0);
        x.poll(0, 2);
        CHECK.due("fewer than 2", x.done(0), 12);
        x.follow(0, 1, 1, 1);
        x.poll(0, 1);
        CHECK.due("none", x.done(0), 11);
        x.follow(0, 1, 63, 0);
        x.poll(0, 4);
        CHECK.due("just 4, the last one at 9", x.done(0), 10);
        x.poll(0, 4);
        CHECK.due("none behind it", x.done(0), 2);
        x.poll(0, 4);
        CHECK.due("at the end", x.done(0), 0);
    }

    private static void pollKeepsTheCursor() {
        CHECK.begin("14: the cursor stays");
        UpcastStreams x = threeStreams();
        x.follow(0, 255, 63, 5);
        for (int n = 1; n <= 4; n++) {
            CHECK.due("poll", x.poll(0, n), n);
            CHECK.due("cursor", x.cursor(0), 5);
            CHECK.due("from the cursor again", x.hand(0, 0), 5);
        }
        x.poll(0, 1);
        CHECK.due("the mark is that of the latest poll", x.done(0), 1);
    }

    private static void pollOfNothing() {
        CHECK.begin("14: when nothing is stored");
        UpcastStreams x = new UpcastStreams(8);
        x.follow(0, 255, 63, 0);
        CHECK.due("poll", x.poll(0, 4), 0);
        CHECK.due("done", x.done(0), 0);
        dueHand(x);
    }

    private static void doneAnswersByHowMuchItGrew() {
        CHECK.begin("15: answers by how much it grew");
        UpcastStreams x = holding(64);
        x.follow(0, 255, 63, 0);
        CHECK.due("without a poll", x.done(0), 0);
        x.poll(0, 3);
        CHECK.due("after a poll", x.done(0), 3);
        CHECK.due("cursor", x.cursor(0), 3);
        CHECK.due("again", x.done(0), 0);
        CHECK.due("cursor", x.cursor(0), 3);
        x.follow(0, 0, 0, 0);
        x.poll(0, 1);
        CHECK.due("all", x.done(0), 64);
        CHECK.due("cursor", x.cursor(0), 64);
        CHECK.due("another reader", x.cursor(1), 0);
    }

    private static void doneGoesToTheMarkOfItsTime() {
        CHECK.begin("15: the reader's cursor becomes its mark");
        UpcastStreams x = holding(2);
        x.follow(0, 255, 63, 0);
        x.follow(1, 255, 63, 0);
        x.poll(0, 4);
        x.poll(1, 1);
        fillOn(x, 0, 2);
        CHECK.due("what came since is not passed over", x.done(0), 2);
        CHECK.due("poll", x.poll(0, 4), 2);
        CHECK.due("its first", x.hand(0, 0), 2);
        CHECK.due("another reader's mark is its own", x.done(1), 1);
    }

    private static void doneThrowsForNoSuchReader() {
        CHECK.begin("15: IllegalArgumentException: there is no such reader");
        UpcastStreams x = holding(2);
        for (int r : new int[] {MIN, -1, 4, MAX}) {
            CHECK.dueText("done(" + r + ")", told(() -> x.done(r)), IAE);
        }
        for (int r = 0; r < 4; r++) {
            CHECK.due("done(" + r + ")", x.done(r), 0);
        }
    }

    // Promise 17

    private static void handThrowsForNoSuchEvent() {
        CHECK.begin("17: NoSuchElementException: there is none");
        UpcastStreams x = threeStreams();
        CHECK.dueText("before any poll", told(() -> x.hand(0, 0)), NSE);
        x.follow(0, 255, 63, 0);
        x.poll(0, 3);
        duePositions(x, 0, 1, 2);
        for (int i : new int[] {MIN, -1, 3, 4, 15, 16, MAX}) {
            for (int part = 0; part <= 4; part++) {
                int asked = part;
                CHECK.dueText("hand(" + i + ", " + part + ")", told(() -> x.hand(i, asked)), NSE);
            }
        }
        x.poll(0, 1);
        CHECK.dueText("one that was there before", told(() -> x.hand(1, 0)), NSE);
    }

    private static void handThrowsForNoSuchPart() {
        CHECK.begin("17: NoSuchElementException: no such part");
        UpcastStreams x = threeStreams();
        x.follow(0, 255, 63, 4);
        x.poll(0, 1);
        for (int part : new int[] {MIN, -1, 5, 6, MAX}) {
            CHECK.dueText("hand(0, " + part + ")", told(() -> x.hand(0, part)), NSE);
            CHECK.dueText("hand(1, " + part + ")", told(() -> x.hand(1, part)), NSE);
        }
        dueHand(x, 4, 1, 3, 4, 0);
    }

    private static void handStays() {
        CHECK.begin("17: the hand stays until the next poll or learn");
        UpcastStreams x = threeStreams();
        x.follow(0, 255, 63, 4);
        x.poll(0, 2);
        x.done(0);
        x.load(0, 4);
        x.comes(3);
        store(x, 0, 0, 3, 77, 78);
        CHECK.due("refused", store(x, 0, 0, 3, 77, 78), -1);
        x.unstage();
        dueHand(x, 4, 1, 3, 4, 0, 5, 2, 3, 5, 0);
    }
}
