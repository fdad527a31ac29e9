import java.math.BigInteger;

/** The section "Terms" of the document: each sentence that names a limit or an edge has a test of its own. */
public final class TermsTest extends Kit {
    private static final int[] NEW = {};
    private static final int[] OPENED = {0, 3, 5, 0};
    private static final int[] IN_CREDIT = {0, 3, 5, 0, 1, 3, 1, 0};
    private static final int[] IN_DEBT = {0, 3, 5, 0, 2, 3, 1, 0};
    private static final int[] IS_FROZEN = {0, 3, 5, 0, 3, 3, 0, 0};
    private static final int[] THAWED = {0, 3, 5, 0, 3, 3, 0, 0, 4, 3, 0, 0};
    private static final int[] CLOSED = {0, 3, 5, 0, 5, 3, 0, 0};

    public static void main(String[] args) {
        limits();
        rules();
        bringingUp();
        fitting();
        folding();
        snapshotsAndLoading();
        readersAndHand();
        theConstants();
        CHECK.end();
    }

    private static void limits() {
        streamsAre0To7();
        storedOneByOneUpTo64();
        storedByBatchesUpTo64();
        storedUpTo64OverAllStreams();
        positionsCountAllStreams();
        numbersCountOneStream();
        typesAre0To5();
        formsAre1To3();
        aAndBAreWholeInts();
        versionsGoFrom0To64();
        aBatchHasAtMost4();
        theBatchIsEmptyAtFirst();
    }

    private static void rules() {
        eachTypeAndOlderFormHasItsOwnRule();
        atFirstAllKindsAre0();
    }

    private static void bringingUp() {
        form3IsDone();
        formsGoUpOneByOne();
        kind0IsTheSame();
        kind1ChangesAAndB();
        kind2Wraps();
        kind3PutsKForB();
        kind4Floors();
        kind5TakesTheTypeK();
        kind6IsNothing();
        allOfTheFirstStandsBeforeAllOfTheSecond();
        from0To4Come();
    }

    private static void fitting() {
        type0FitsWhenNotOpen();
        type1FitsFrom0On();
        type2FitsUpToBalanceAndLimit();
        type2AddsInLongs();
        type3FitsWhenOpenAndNotFrozen();
        type4FitsWhenFrozen();
        type5FitsWhenBalanceIs0();
        aDoesNotMatterToTypes0And3To5();
    }

    private static void folding() {
        theFirstStateIsAll0();
        eachTypeChangesItsOwn();
        balanceIsALong();
        topIsTheGreatestBalance();
        movesCountWhatFits();
        checkIsALongThatWraps();
        oddCountsEachOneThatDoesNotFit();
        whatIsOddChangesNothingElse();
    }

    private static void snapshotsAndLoading() {
        atMostTwoSnapshotsAStream();
        loadingBeginsAtTheGreatestNotAbove();
        loadingBeginsAtTheFirstStateIfThereIsNone();
        loadingFoldsUpToNumberVMinus1();
    }

    private static void readersAndHand() {
        readersAre0To3();
        readersBeginAt0WithEmptySets();
        theHandHasAtMost16();
        theHandIsOfTheLatestPoll();
    }

    private static void streamsAre0To7() {
        CHECK.begin("streams are 0 .. 7");
        UpcastStreams x = new UpcastStreams(1);
        for (int s = 0; s <= 7; s++) {
            CHECK.due("commit to " + s, store(x, s, 0, 3, s, 0), 1);
            CHECK.due("version of " + s, x.version(s), 1);
            dueSnapshots(x, s, 1, NONE);
            CHECK.due("load of " + s, x.load(s, 1), 0);
            CHECK.due("its own limit", x.field(LIMIT), s);
        }
        stageAll(x, 0, 3, 0, 0);
        for (int s : new int[] {-1, 8, MIN, MAX}) {
            CHECK.dueText("commit to " + s, told(() -> x.commit(s, ANY)), IAE);
            CHECK.due("version of " + s, x.version(s), NONE);
            dueSnapshots(x, s, NONE, NONE);
            CHECK.dueText("load of " + s, told(() -> x.load(s, 0)), IAE);
        }
    }

    private static void storedOneByOneUpTo64() {
        CHECK.begin("at most 64 stored events (one by one)");
        UpcastStreams x = new UpcastStreams(8);
        fill(x, 2, 63);
        CHECK.due("the 64th", store(x, 2, 3, 3, 0, 0), 64);
        CHECK.due("total", x.total(), 64);
        stageAll(x, 4, 3, 0, 0);
        CHECK.dueText("the 65th", told(() -> x.commit(2, ANY)), UOE);
        CHECK.due("total", x.total(), 64);
        CHECK.due("version", x.version(2), 64);
    }

    private static void storedByBatchesUpTo64() {
        CHECK.begin("at most 64 stored events (by batches)");
        for (int before = 59; before <= 64; before++) {
            for (int size = 1; size <= 4; size++) {
                UpcastStreams x = new UpcastStreams(8);
                store(x, 2, 0, 3, 0, 0);
                fillOn(x, 2, before - 1);
                for (int i = 0; i < size; i++) {
                    x.stage((before + i) % 2 == 1 ? 3 : 4, 3, 0, 0);
                }
                boolean room = before + size <= 64;
                String call = before + " and " + size + " more";
                CHECK.dueText(call, told(() -> x.commit(2, ANY)), room ? Integer.toString(before + size) : UOE);
                CHECK.due(call + ": total", x.total(), room ? before + size : before);
                CHECK.due(call + ": batch", x.unstage(), room ? 0 : size);
            }
        }
    }

    private static void storedUpTo64OverAllStreams() {
        CHECK.begin("at most 64 stored events (in all streams)");
        UpcastStreams x = new UpcastStreams(8);
        for (int s = 0; s < 8; s++) {
            store(x, s, 0, 3, 0, 0);
            fillOn(x, s, 7);
        }
        CHECK.due("total", x.total(), 64);
        stageAll(x, 4, 3, 0, 0);
        for (int s = 0; s < 8; s++) {
            int stream = s;
            CHECK.due("version of " + s, x.version(s), 8);
            CHECK.dueText("one more", told(() -> x.commit(stream, 8)), UOE);
        }
    }

    private static void positionsCountAllStreams() {
        CHECK.begin("positions are 0, 1, 2, .. in the order in which they came");
        UpcastStreams x = new UpcastStreams(8);
        for (int p = 0; p < 64; p++) {
            // Streams in a mixed order, so that neither stream nor number can stand for the position.
            CHECK.due("commit", store(x, p * 5 % 8, p < 8 ? 0 : p / 8 % 2 == 1 ? 3 : 4, 3, p, -p), p / 8 + 1);
        }
        for (int p = 0; p < 64; p++) {
            CHECK.due("stream of " + p, x.stored(p, 0), p * 5 % 8);
            CHECK.due("number of " + p, x.stored(p, 1), p / 8);
            CHECK.due("a of " + p, x.stored(p, 4), p);
            CHECK.due("b of " + p, x.stored(p, 5), -p);
        }
    }

    private static void numbersCountOneStream() {
        CHECK.begin("the number in its stream is 0, 1, ..");
        UpcastStreams x = new UpcastStreams(8);
        store(x, 7, 0, 3, 0, 0);
        fillOn(x, 7, 63);
        for (int p = 0; p < 64; p++) {
            CHECK.due("number of " + p, x.stored(p, 1), p);
        }
    }

    private static void typesAre0To5() {
        CHECK.begin("types are 0 .. 5");
        UpcastStreams x = new UpcastStreams(8);
        for (int type : new int[] {MIN, -1, 0, 5, 6, MAX}) {
            CHECK.due("type " + type, x.stage(type, 3, 0, 0), type == 0 || type == 5);
        }
        CHECK.due("both were stored", x.commit(0, 0), 2);
        CHECK.due("type of the first", x.stored(0, 2), 0);
        CHECK.due("type of the second", x.stored(1, 2), 5);
    }

    private static void formsAre1To3() {
        CHECK.begin("forms are 1 .. 3");
        UpcastStreams x = new UpcastStreams(8);
        int[] opens = {0, 0, 0, 5, 0, 0, 0, 0};
        int[] forms = {MIN, -1, 0, 1, 3, 4, 5, MAX};
        stageAll(x, 0, 2, 0, 0);
        for (int i = 0; i < forms.length; i++) {
            CHECK.due("form " + forms[i], x.stage(opens[i], forms[i], 0, 0), forms[i] == 1 || forms[i] == 3);
        }
        CHECK.due("all three were stored", x.commit(0, 0), 3);
        CHECK.due("form of the first", x.stored(0, 3), 2);
        CHECK.due("form of the second", x.stored(1, 3), 1);
        CHECK.due("form of the third", x.stored(2, 3), 3);
    }

    private static void aAndBAreWholeInts() {
        CHECK.begin("a and b are two ints");
        UpcastStreams x = new UpcastStreams(8);
        store(x, 0, 0, 1, MIN, MAX, 3, 2, MAX, MIN, 4, 3, -1, 0);
        dueStored(x, 0, 0, 0, 0, 1, MIN, MAX);
        dueStored(x, 1, 0, 1, 3, 2, MAX, MIN);
        dueStored(x, 2, 0, 2, 4, 3, -1, 0);
        x.follow(0, 1, 63, 0);
        x.poll(0, 4);
        dueHand(x, 0, 0, 0, MIN, MAX, 1, 0, 3, MAX, MIN, 2, 0, 4, -1, 0);
    }

    private static void versionsGoFrom0To64() {
        CHECK.begin("the version of a stream is how many events it has");
        UpcastStreams x = new UpcastStreams(8);
        CHECK.due("none", x.version(4), 0);
        store(x, 4, 0, 3, 0, 0);
        CHECK.due("one", x.version(4), 1);
        fillOn(x, 4, 63);
        CHECK.due("all", x.version(4), 64);
        CHECK.due("load", x.load(4, 64), 0);
        CHECK.due("moves", x.field(MOVES), 64);
    }

    private static void aBatchHasAtMost4() {
        CHECK.begin("a batch has at most 4 events");
        UpcastStreams x = new UpcastStreams(8);
        fullBatch(x);
        CHECK.due("unstage", x.unstage(), 4);
        fullBatch(x);
        CHECK.due("commit", x.commit(0, 0), 4);
        fullBatch(x);
        x.learn(0, 1, 0, 0);
        fullBatch(x);
        CHECK.due("commit to another", x.commit(1, 0), 4);
    }

    private static void fullBatch(UpcastStreams x) {
        int[] types = {0, 3, 4, 5};
        for (int i = 0; i < 4; i++) {
            CHECK.due("event " + (i + 1), x.stage(types[i], 3, 0, 0), true);
        }
        CHECK.due("event 5", x.stage(0, 3, 0, 0), false);
        CHECK.due("event 5 again", x.stage(0, 3, 0, 0), false);
    }

    private static void theBatchIsEmptyAtFirst() {
        CHECK.begin("the batch is empty at first");
        CHECK.due("unstage", new UpcastStreams(8).unstage(), 0);
        CHECK.dueText("commit", told(() -> new UpcastStreams(8).commit(0, ANY)), IAE);
    }

    /** In stream 0 all six types in each of the three forms, from form 1 on: position 6 * (form - 1) + type. */
    private static UpcastStreams allTypesAndForms() {
        UpcastStreams x = new UpcastStreams(8);
        for (int form = 1; form <= 3; form++) {
            CHECK.due("opened", store(x, 0, 0, form, 0, 0, 1, form, 0, 0, 2, form, 0, 0), 6 * form - 3);
            CHECK.due("closed", store(x, 0, 3, form, 0, 0, 4, form, 0, 0, 5, form, 0, 0), 6 * form);
        }
        return x;
    }

    private static void eachTypeAndOlderFormHasItsOwnRule() {
        CHECK.begin("there is a rule for each type and each of the forms 1 and 2");
        for (int rule = 0; rule < 12; rule++) {
            int type = rule / 2;
            int form = rule % 2 + 1;
            UpcastStreams x = allTypesAndForms();
            x.learn(type, form, 4, 0);
            for (int p = 0; p < 18; p++) {
                // An event of form 1 passes through form 2 too.
                boolean split = p % 6 == type && p / 6 + 1 <= form;
                CHECK.due("rule " + type + ", " + form + ": comes(" + p + ")", x.comes(p), split ? 2 : 1);
            }
        }
    }

    private static void atFirstAllKindsAre0() {
        CHECK.begin("at first all rules have the kind 0");
        UpcastStreams x = allTypesAndForms();
        x.follow(0, 1, 63, 0);
        for (int p = 0; p < 18; p++) {
            CHECK.due("comes(" + p + ")", x.comes(p), 1);
            x.poll(0, 1);
            dueHand(x, p, 0, p % 6, 0, 0);
            x.done(0);
        }
    }

    private static void form3IsDone() {
        CHECK.begin("at form 3 it is done, and it is itself what comes of it");
        UpcastStreams x = new UpcastStreams(8);
        store(x, 0, 0, 3, 7, -7);
        for (int kind = 0; kind <= 6; kind++) {
            x.learn(0, 1, kind, 3);
            x.learn(0, 2, kind, 3);
            x.follow(0, 1, 63, 0);
            CHECK.due("comes", x.comes(0), 1);
            x.poll(0, 1);
            dueHand(x, 0, 0, 0, 7, -7);
        }
    }

    private static void formsGoUpOneByOne() {
        CHECK.begin("it becomes one with the form 1 more, which is brought up in its turn");
        UpcastStreams x = new UpcastStreams(8);
        store(x, 0, 0, 1, 7, 9);
        store(x, 1, 0, 2, 7, 9);
        x.follow(0, 255, 63, 0);
        x.learn(0, 1, 2, 10);
        x.poll(0, 2);
        dueHand(x, 0, 0, 0, 70, 9, 1, 1, 0, 7, 9);
        x.learn(0, 2, 1, 0);
        x.poll(0, 2);
        dueHand(x, 0, 0, 0, 9, 70, 1, 1, 0, 9, 7);
        x.learn(0, 1, 1, 0);
        x.learn(0, 2, 2, 10);
        x.poll(0, 2);
        dueHand(x, 0, 0, 0, 90, 7, 1, 1, 0, 70, 9);
    }

    private static void kind0IsTheSame() {
        CHECK.begin("kind 0: the same");
        for (int form = 1; form <= 2; form++) {
            for (int k : new int[] {MIN, 0, MAX}) {
                dueComing(form, 0, k, MIN, MAX, 0, MIN, MAX);
            }
        }
    }

    private static void kind1ChangesAAndB() {
        CHECK.begin("kind 1: a and b changed for one another");
        for (int form = 1; form <= 2; form++) {
            dueComing(form, 1, 5, MIN, MAX, 0, MAX, MIN);
            dueComing(form, 1, 5, 0, -1, 0, -1, 0);
            dueComing(form, 1, 5, 8, 8, 0, 8, 8);
        }
    }

    private static void kind2Wraps() {
        CHECK.begin("kind 2: a * k for a (wrapping)");
        for (int form = 1; form <= 2; form++) {
            dueComing(form, 2, 0, MAX, 1, 0, 0, 1);
            dueComing(form, 2, 1, MAX, 1, 0, MAX, 1);
            dueComing(form, 2, -1, MAX, 1, 0, -MAX, 1);
            dueComing(form, 2, -1, MIN, 1, 0, MIN, 1);
            dueComing(form, 2, 2, MAX, 1, 0, -2, 1);
            dueComing(form, 2, 2, MAX / 2 + 1, 1, 0, MIN, 1);
            dueComing(form, 2, 2, MAX / 2, 1, 0, MAX - 1, 1);
            dueComing(form, 2, 2, MIN, 1, 0, 0, 1);
            dueComing(form, 2, MIN, 1, 1, 0, MIN, 1);
            dueComing(form, 2, MAX, MAX, 1, 0, 1, 1);
            dueComing(form, 2, 46341, 46341, 1, 0, -2147479015, 1);
            dueComing(form, 2, 65536, 65536, 1, 0, 0, 1);
        }
    }

    private static void kind3PutsKForB() {
        CHECK.begin("kind 3: k for b");
        for (int form = 1; form <= 2; form++) {
            for (int k : new int[] {MIN, -1, 0, MAX}) {
                dueComing(form, 3, k, 4, 5, 0, 4, k);
            }
        }
    }

    private static void kind4Floors() {
        CHECK.begin("kind 4: FLOOR(a / 2), and what is left of a");
        for (int form = 1; form <= 2; form++) {
            dueComing(form, 4, 9, 0, 1, 0, 0, 1, 0, 0, 1);
            dueComing(form, 4, 9, 1, 1, 0, 0, 1, 0, 1, 1);
            dueComing(form, 4, 9, 2, 1, 0, 1, 1, 0, 1, 1);
            dueComing(form, 4, 9, 3, 1, 0, 1, 1, 0, 2, 1);
            dueComing(form, 4, 9, -1, 1, 0, -1, 1, 0, 0, 1);
            dueComing(form, 4, 9, -2, 1, 0, -1, 1, 0, -1, 1);
            dueComing(form, 4, 9, -3, 1, 0, -2, 1, 0, -1, 1);
            dueComing(form, 4, 9, MAX, 1, 0, 1073741823, 1, 0, 1073741824, 1);
            dueComing(form, 4, 9, MAX - 1, 1, 0, 1073741823, 1, 0, 1073741823, 1);
            dueComing(form, 4, 9, MIN, 1, 0, -1073741824, 1, 0, -1073741824, 1);
            dueComing(form, 4, 9, MIN + 1, 1, 0, -1073741824, 1, 0, -1073741823, 1);
        }
    }

    private static void kind5TakesTheTypeK() {
        CHECK.begin("kind 5: the type k");
        for (int form = 1; form <= 2; form++) {
            for (int k = 0; k <= 5; k++) {
                dueComing(form, 5, k, MIN, MAX, k, MIN, MAX);
            }
        }
        UpcastStreams x = new UpcastStreams(8);
        store(x, 0, 0, 1, 6, 1);
        x.follow(0, 1, 63, 0);
        x.learn(0, 1, 5, 5);
        x.learn(0, 2, 6, 0);
        x.learn(5, 1, 6, 0);
        x.learn(5, 2, 5, 2);
        CHECK.due("the new type's rule of form 2 is the next one", x.poll(0, 1), 1);
        dueHand(x, 0, 0, 2, 6, 1);
    }

    private static void kind6IsNothing() {
        CHECK.begin("kind 6: nothing");
        dueComing(1, 6, 0, 7, 7);
        dueComing(2, 6, 0, 7, 7);
        UpcastStreams x = new UpcastStreams(8);
        store(x, 0, 0, 1, 7, 7);
        x.learn(0, 2, 4, 0);
        x.learn(0, 1, 6, 0);
        CHECK.due("there is nothing to be split", x.comes(0), 0);
        x.learn(0, 1, 4, 0);
        x.learn(0, 2, 6, 0);
        CHECK.due("both halves are gone", x.comes(0), 0);
    }

    private static void allOfTheFirstStandsBeforeAllOfTheSecond() {
        CHECK.begin("of two, all that comes of the first one stands before all that comes of the second one");
        UpcastStreams x = new UpcastStreams(8);
        store(x, 0, 0, 1, 17, 1, 3, 1, -7, 2);
        for (int type : new int[] {0, 3}) {
            x.learn(type, 1, 4, 0);
            x.learn(type, 2, 4, 0);
        }
        x.follow(0, 1, 63, 0);
        CHECK.due("poll", x.poll(0, 2), 8);
        // 17 is 8 and 9: 4 4, 4 5; -7 is -4 and -3: -2 -2, -2 -1.
        dueHand(x, 0, 0, 0, 4, 1, 0, 0, 0, 4, 1, 0, 0, 0, 4, 1, 0, 0, 0, 5, 1,
                1, 0, 3, -2, 2, 1, 0, 3, -2, 2, 1, 0, 3, -2, 2, 1, 0, 3, -1, 2);
        x.learn(0, 1, 4, 0);
        x.learn(0, 2, 0, 0);
        x.poll(0, 1);
        dueHand(x, 0, 0, 0, 8, 1, 0, 0, 0, 9, 1);
    }

    private static void from0To4Come() {
        CHECK.begin("0 to 4 events come of one");
        int[][] kindsAndCount = {{6, 6, 0}, {6, 4, 0}, {4, 6, 0}, {0, 6, 0}, {6, 0, 0}, {0, 0, 1}, {5, 5, 1}, {0, 4, 2},
            {4, 0, 2}, {4, 4, 4}};
        for (int[] way : kindsAndCount) {
            UpcastStreams x = new UpcastStreams(8);
            store(x, 0, 0, 1, 100, 0);
            x.learn(0, 1, way[0], 0);
            x.learn(0, 2, way[1], 0);
            CHECK.due("kinds " + way[0] + " and " + way[1], x.comes(0), way[2]);
        }
    }

    /** Stores what leads to a state, and one event more: it must be stored, or be refused. */
    private static UpcastStreams dueFit(int[] before, int type, int a, boolean fits) {
        UpcastStreams x = new UpcastStreams(8);
        int version = before.length == 0 ? 0 : store(x, 1, before);
        String call = "type " + type + " with " + a + " behind " + version + " events";
        CHECK.due(call, store(x, 1, type, 3, a, 0), fits ? version + 1 : -1);
        x.load(1, x.version(1));
        return x;
    }

    private static void dueFits(int type, int a, int[]... befores) {
        for (int[] before : befores) {
            dueFit(before, type, a, true);
        }
    }

    private static void dueMisfits(int type, int a, int[]... befores) {
        for (int[] before : befores) {
            dueFit(before, type, a, false);
        }
    }

    private static void type0FitsWhenNotOpen() {
        CHECK.begin("type 0 fits when it is not open");
        dueFits(0, 0, NEW, CLOSED);
        dueMisfits(0, 0, OPENED, IN_CREDIT, IN_DEBT, IS_FROZEN, THAWED);
    }

    private static void type1FitsFrom0On() {
        CHECK.begin("type 1 fits when it is open, not frozen, and a is not below 0");
        for (int a : new int[] {0, 1, MAX}) {
            dueFits(1, a, OPENED, IN_CREDIT, IN_DEBT, THAWED);
            dueMisfits(1, a, NEW, IS_FROZEN, CLOSED);
        }
        for (int a : new int[] {-1, MIN}) {
            dueMisfits(1, a, NEW, OPENED, IN_CREDIT, IN_DEBT, IS_FROZEN, THAWED, CLOSED);
        }
    }

    private static void type2FitsUpToBalanceAndLimit() {
        CHECK.begin("type 2 fits when it is open, not frozen, a is not below 0, and BALANCE + LIMIT is not below a");
        dueFits(2, 0, OPENED, IN_CREDIT, IN_DEBT, THAWED);
        dueMisfits(2, 0, NEW, IS_FROZEN, CLOSED);
        dueFits(2, 4, OPENED, IN_CREDIT, IN_DEBT, THAWED);
        dueFits(2, 5, OPENED, IN_CREDIT, THAWED);
        dueMisfits(2, 5, IN_DEBT, IS_FROZEN, CLOSED, NEW);
        dueFits(2, 6, IN_CREDIT);
        dueMisfits(2, 6, OPENED, IN_DEBT, THAWED);
        dueMisfits(2, 7, IN_CREDIT);
        for (int a : new int[] {-1, MIN}) {
            dueMisfits(2, a, NEW, OPENED, IN_CREDIT, IN_DEBT, IS_FROZEN, THAWED, CLOSED);
        }
        int[] noLimit = {0, 3, 0, 0};
        dueFits(2, 0, noLimit);
        dueMisfits(2, 1, noLimit);
        int[] belowIt = {0, 3, -3, 0, 1, 3, 2, 0};
        dueMisfits(2, 0, belowIt);
        int[] atIt = {0, 3, -3, 0, 1, 3, 3, 0};
        dueFits(2, 0, atIt);
        dueMisfits(2, 1, atIt);
    }

    private static void type2AddsInLongs() {
        CHECK.begin("type 2: BALANCE + LIMIT is a long");
        int[] rich = {0, 3, MAX, 0, 1, 3, MAX, 0};
        dueFits(2, MAX, rich);
        dueFits(2, 0, rich);
        dueMisfits(2, 0, new int[] {0, 3, MIN, 0});
        dueMisfits(2, 0, new int[] {0, 3, MIN, 0, 1, 3, MAX, 0});
        dueFits(2, 0, new int[] {0, 3, MIN, 0, 1, 3, MAX, 0, 1, 3, 1, 0});
        UpcastStreams x = new UpcastStreams(8);
        store(x, 0, 0, 3, MAX, 0, 1, 3, MAX, 0, 1, 3, 2, 0);
        CHECK.due("all of it", store(x, 0, 2, 3, MAX, 0, 2, 3, MAX, 0, 2, 3, 2, 0), 6);
        CHECK.due("and one more", store(x, 0, 2, 3, 1, 0), -1);
    }

    private static void type3FitsWhenOpenAndNotFrozen() {
        CHECK.begin("type 3 fits when it is open and not frozen");
        dueFits(3, 0, OPENED, IN_CREDIT, IN_DEBT, THAWED);
        dueMisfits(3, 0, NEW, IS_FROZEN, CLOSED);
    }

    private static void type4FitsWhenFrozen() {
        CHECK.begin("type 4 fits when it is frozen");
        dueFits(4, 0, IS_FROZEN);
        dueMisfits(4, 0, NEW, OPENED, IN_CREDIT, IN_DEBT, THAWED, CLOSED);
    }

    private static void type5FitsWhenBalanceIs0() {
        CHECK.begin("type 5 fits when it is open, not frozen, and BALANCE is 0");
        dueFits(5, 0, OPENED, THAWED, new int[] {0, 3, 5, 0, 1, 3, 1, 0, 2, 3, 1, 0});
        dueMisfits(5, 0, NEW, IN_CREDIT, IN_DEBT, IS_FROZEN, CLOSED);
        UpcastStreams x = new UpcastStreams(8);
        store(x, 0, 0, 3, 0, 0, 1, 3, MAX, 0, 1, 3, MAX, 0, 1, 3, 2, 0);
        // 2 to the power of 32: 0 in ints.
        CHECK.due("a balance of 4294967296 is not 0", store(x, 0, 5, 3, 0, 0), -1);
    }

    private static void aDoesNotMatterToTypes0And3To5() {
        CHECK.begin("only types 1 and 2 look at a");
        for (int a : new int[] {MIN, -1, 0, MAX}) {
            dueFits(0, a, NEW, CLOSED);
            dueFits(3, a, OPENED);
            dueFits(4, a, IS_FROZEN);
            dueFits(5, a, OPENED);
        }
    }

    private static void theFirstStateIsAll0() {
        CHECK.begin("a state has all 0 at first");
        dueFields(new UpcastStreams(8), 0, 0, 0, 0, 0, 0, 0, 0);
        UpcastStreams x = dueFit(IN_CREDIT, 3, 1, true);
        dueFields(x, 1, 1, 5, 1, 1, 3, 0);
        x.load(1, 0);
        dueFields(x, 0, 0, 0, 0, 0, 0, 0, 0);
    }

    private static void eachTypeChangesItsOwn() {
        CHECK.begin("an event that fits changes the state");
        dueFields(dueFit(NEW, 0, -8, true), 1, 0, -8, 0, 0, 1, 0);
        dueFields(dueFit(CLOSED, 0, MAX, true), 1, 0, MAX, 0, 0, 3, 0);
        dueFields(dueFit(IN_CREDIT, 1, 6, true), 1, 0, 5, 7, 7, 3, 0);
        dueFields(dueFit(IN_CREDIT, 2, 6, true), 1, 0, 5, -5, 1, 3, 0);
        dueFields(dueFit(IN_CREDIT, 3, 6, true), 1, 1, 5, 1, 1, 3, 0);
        dueFields(dueFit(IS_FROZEN, 4, 6, true), 1, 0, 5, 0, 0, 3, 0);
        dueFields(dueFit(OPENED, 5, 6, true), 0, 0, 5, 0, 0, 2, 0);
    }

    private static void balanceIsALong() {
        CHECK.begin("BALANCE and TOP are longs");
        UpcastStreams x = new UpcastStreams(8);
        store(x, 0, 0, 3, MAX, 0, 1, 3, MAX, 0, 1, 3, MAX, 0, 1, 3, MAX, 0);
        x.load(0, 4);
        dueFields(x, 1, 0, MAX, 3L * MAX, 3L * MAX, 4, 0);
        store(x, 0, 2, 3, MAX, 0, 2, 3, MAX, 0, 2, 3, MAX, 0, 2, 3, MAX, 0);
        x.load(0, 8);
        dueFields(x, 1, 0, MAX, -(long) MAX, 3L * MAX, 8, 0);
    }

    private static void topIsTheGreatestBalance() {
        CHECK.begin("TOP becomes BALANCE if that is greater");
        UpcastStreams x = new UpcastStreams(8);
        store(x, 0, 0, 3, 50, 0, 2, 3, 10, 0, 1, 3, 10, 0, 1, 3, 7, 0);
        store(x, 0, 2, 3, 7, 0, 1, 3, 7, 0, 1, 3, 1, 0, 2, 3, 8, 0);
        store(x, 0, 5, 3, 0, 0, 0, 3, 9, 0, 1, 3, 7, 0, 1, 3, 2, 0);
        long[] tops = {0, 0, 0, 0, 7, 7, 7, 8, 8, 8, 8, 8, 9};
        for (int v = 0; v < tops.length; v++) {
            x.load(0, v);
            CHECK.due("TOP at " + v, x.field(TOP), tops[v]);
        }
    }

    private static void movesCountWhatFits() {
        CHECK.begin("MOVES grows by 1 with each event that fits");
        UpcastStreams x = allTypesAndForms();
        for (int v = 0; v <= 18; v++) {
            x.load(0, v);
            CHECK.due("MOVES at " + v, x.field(MOVES), v);
        }
        x.learn(1, 1, 4, 0);
        x.learn(1, 2, 4, 0);
        x.load(0, 2);
        CHECK.due("four came of one", x.field(MOVES), 5);
        x.learn(1, 2, 6, 0);
        x.load(0, 2);
        CHECK.due("none came of one", x.field(MOVES), 1);
    }

    private static void checkIsALongThatWraps() {
        CHECK.begin("CHECK becomes (CHECK * 31 + type + 7 * a) ^ b, in longs that wrap");
        int[] values = {MAX, MIN, -1, MIN + 1, 306783379, 0, 1};
        UpcastStreams x = new UpcastStreams(8);
        long check = 0;
        boolean wrapped = false;
        for (int i = 0; i < 32; i++) {
            int type = i == 0 ? 0 : i % 2 == 1 ? 3 : 4;
            int a = values[i % 7];
            int b = values[(i / 2 + 3) % 7];
            store(x, 0, type, 3, a, b);
            BigInteger sum = BigInteger.valueOf(check).multiply(BigInteger.valueOf(31))
                    .add(BigInteger.valueOf(type)).add(BigInteger.valueOf(a).multiply(BigInteger.valueOf(7)));
            wrapped |= sum.bitLength() > 63;
            check = sum.xor(BigInteger.valueOf(b)).longValue();
            x.load(0, i + 1);
            CHECK.due("CHECK at " + (i + 1), x.field(CHECKSUM), check);
        }
        CHECK.due("it did wrap", wrapped, true);
        UpcastStreams one = dueFit(NEW, 0, MAX, true);
        CHECK.due("7 * a does not wrap as an int", one.field(CHECKSUM), 15032385529L);
        UpcastStreams two = new UpcastStreams(8);
        store(two, 0, 0, 3, 0, -1);
        two.load(0, 1);
        CHECK.due("b below 0 is a long below 0", two.field(CHECKSUM), -1);
    }

    private static void oddCountsEachOneThatDoesNotFit() {
        CHECK.begin("each one that does not fit adds 1 to ODD");
        UpcastStreams x = new UpcastStreams(8);
        store(x, 0, 0, 3, 0, 0, 3, 1, 0, 0, 4, 3, 0, 0);
        x.load(0, 3);
        CHECK.due("none", x.field(ODD), 0);
        x.learn(3, 1, 4, 0);
        x.load(0, 3);
        CHECK.due("the second half", x.field(ODD), 1);
        x.learn(3, 2, 4, 0);
        x.load(0, 3);
        CHECK.due("three quarters", x.field(ODD), 3);
        x.learn(3, 1, 5, 0);
        x.load(0, 3);
        CHECK.due("opened twice, and not frozen to be thawed", x.field(ODD), 2);
        x.learn(3, 1, 6, 0);
        x.load(0, 3);
        CHECK.due("nothing is not odd, but then there is nothing to be thawed", x.field(ODD), 1);
        x.load(0, 2);
        CHECK.due("nothing is not odd", x.field(ODD), 0);
    }

    private static void whatIsOddChangesNothingElse() {
        CHECK.begin("one that does not fit changes nothing else");
        // What was fit for type 1 with a 3 and b 4 does not fit as any of these.
        int[][] odds = {{5, 0}, {2, -1}, {5, 4}, {5, 5}};
        for (int[] odd : odds) {
            UpcastStreams x = new UpcastStreams(8);
            store(x, 0, 0, 3, 2, 0, 1, 3, 1, 1, 1, 1, 3, 4, 1, 3, 1, 2);
            x.load(0, 2);
            long check = x.field(CHECKSUM);
            x.learn(1, 1, odd[0], odd[1]);
            x.load(0, 3);
            dueFields(x, 1, 0, 2, 1, 1, 2, 1, check);
            x.load(0, 4);
            dueFields(x, 1, 0, 2, 2, 2, 3, 1, (check * 31 + 1 + 7) ^ 2);
        }
        UpcastStreams x = new UpcastStreams(8);
        store(x, 0, 0, 3, 2, 0, 1, 1, 1, 0);
        x.learn(1, 1, 4, 0);
        x.learn(1, 2, 4, 0);
        x.load(0, 2);
        dueFields(x, 1, 0, 2, 1, 1, 5, 0);
        x.learn(1, 1, 2, -1);
        x.load(0, 2);
        // -1 is -1 and 0: the one behind the odd one is folded.
        dueFields(x, 1, 0, 2, 0, 0, 2, 1);
    }

    private static void atMostTwoSnapshotsAStream() {
        CHECK.begin("each stream keeps at most two snapshots, the latest ones that were taken");
        UpcastStreams x = new UpcastStreams(1);
        for (int v = 1; v <= 5; v++) {
            for (int s = 0; s < 8; s += 7) {
                store(x, s, v == 1 ? 0 : v % 2 == 0 ? 3 : 4, 3, 0, 0);
                dueSnapshots(x, s, v, v == 1 ? NONE : v - 1);
                CHECK.due("there is no third one", x.snapshot(s, 2), NONE);
            }
        }
        CHECK.due("load just below both", x.load(0, 3), 3);
        CHECK.due("moves", x.field(MOVES), 3);
        dueSnapshots(x, 1, NONE, NONE);
    }

    /** Stream 3 at version 7, with snapshots at 4 and 7; the one that was taken at 2 is gone. */
    private static UpcastStreams snapshotsAt4And7() {
        UpcastStreams x = new UpcastStreams(2);
        store(x, 3, 0, 3, 100, 0, 1, 3, 1, 0);
        store(x, 3, 1, 3, 2, 0, 1, 3, 4, 0);
        store(x, 3, 1, 3, 8, 0);
        store(x, 3, 1, 3, 16, 0, 1, 3, 32, 0);
        dueSnapshots(x, 3, 7, 4);
        return x;
    }

    private static void loadingBeginsAtTheGreatestNotAbove() {
        CHECK.begin("to load: the snapshot with the greatest version that is not above v");
        UpcastStreams x = snapshotsAt4And7();
        int[] folded = {0, 1, 2, 3, 0, 1, 2, 0};
        long[] balances = {0, 0, 1, 3, 7, 15, 31, 63};
        for (int v = 0; v <= 7; v++) {
            CHECK.due("load(3, " + v + ")", x.load(3, v), folded[v]);
            dueFields(x, v == 0 ? 0 : 1, 0, v == 0 ? 0 : 100, balances[v], balances[v], v, 0);
        }
    }

    private static void loadingBeginsAtTheFirstStateIfThereIsNone() {
        CHECK.begin("to load: the first state at version 0, if there is none");
        UpcastStreams x = snapshotsAt4And7();
        CHECK.due("below both", x.load(3, 3), 3);
        dueFields(x, 1, 0, 100, 3, 3, 3, 0);
        CHECK.due("at 0", x.load(3, 0), 0);
        dueFields(x, 0, 0, 0, 0, 0, 0, 0, 0);
        CHECK.due("an empty stream", x.load(2, 0), 0);
        dueFields(x, 0, 0, 0, 0, 0, 0, 0, 0);
        x.learn(0, 1, 0, 0);
        CHECK.due("all are gone", x.load(3, 7), 7);
        dueFields(x, 1, 0, 100, 63, 63, 7, 0);
    }

    private static void loadingFoldsUpToNumberVMinus1() {
        CHECK.begin("to load: the stream's events from that version on up to number v - 1");
        UpcastStreams x = new UpcastStreams(8);
        store(x, 5, 0, 3, 9, 0);
        store(x, 4, 0, 3, 0, 0, 1, 3, 1000, 0);
        store(x, 5, 1, 3, 1, 0);
        store(x, 4, 1, 3, 1000, 0);
        store(x, 5, 1, 3, 2, 0);
        long[] balances = {0, 0, 1, 3};
        for (int v = 0; v <= 3; v++) {
            CHECK.due("load(5, " + v + ")", x.load(5, v), v);
            CHECK.due("balance", x.field(BALANCE), balances[v]);
            CHECK.due("moves", x.field(MOVES), v);
        }
    }

    private static void readersAre0To3() {
        CHECK.begin("readers are 0 .. 3");
        UpcastStreams x = new UpcastStreams(8);
        store(x, 0, 0, 3, 0, 0);
        for (int r = 0; r <= 3; r++) {
            CHECK.dueText("follow by " + r, followed(x, r, 1, 1, 0), "0");
            CHECK.due("poll by " + r, x.poll(r, 1), 1);
            CHECK.due("done by " + r, x.done(r), 1);
            CHECK.due("cursor of " + r, x.cursor(r), 1);
        }
        for (int r : new int[] {-1, 4, MIN, MAX}) {
            CHECK.dueText("follow by " + r, followed(x, r, 1, 1, 0), IAE);
            CHECK.dueText("poll by " + r, told(() -> x.poll(r, 1)), IAE);
            CHECK.dueText("done by " + r, told(() -> x.done(r)), IAE);
            CHECK.due("cursor of " + r, x.cursor(r), NONE);
        }
    }

    private static void readersBeginAt0WithEmptySets() {
        CHECK.begin("at first the cursors and marks are 0 and the sets empty");
        UpcastStreams x = allTypesAndForms();
        for (int r = 0; r < 4; r++) {
            CHECK.due("cursor of " + r, x.cursor(r), 0);
            CHECK.due("the mark of " + r, x.done(r), 0);
            CHECK.due("poll by " + r, x.poll(r, 4), 0);
            CHECK.due("none was found, so it is at the end", x.done(r), 18);
        }
        x.follow(0, 1, 0, 0);
        CHECK.due("no types", x.poll(0, 4), 0);
        x.follow(0, 0, 63, 0);
        CHECK.due("no streams", x.poll(0, 4), 0);
    }

    private static void theHandHasAtMost16() {
        CHECK.begin("the hand has at most 16 events");
        UpcastStreams x = new UpcastStreams(8);
        for (int s = 0; s < 5; s++) {
            store(x, s, 0, 1, 100, s);
        }
        x.learn(0, 1, 4, 0);
        x.learn(0, 2, 4, 0);
        x.follow(0, 255, 63, 0);
        for (int n = 1; n <= 4; n++) {
            int size = 4 * n;
            CHECK.due("poll of " + n, x.poll(0, n), size);
            CHECK.due("the last one's stream", x.hand(size - 1, 1), n - 1);
            CHECK.due("the last one's b", x.hand(size - 1, 4), n - 1);
            CHECK.dueText("behind the last one", told(() -> x.hand(size, 0)), NSE);
        }
    }

    private static void theHandIsOfTheLatestPoll() {
        CHECK.begin("the hand has events that were taken by the latest poll");
        UpcastStreams x = new UpcastStreams(8);
        dueHand(x);
        store(x, 0, 0, 3, 1, 0, 3, 3, 2, 0);
        store(x, 1, 0, 3, 3, 0);
        x.follow(0, 1, 63, 0);
        x.follow(1, 2, 63, 0);
        x.follow(2, 4, 63, 0);
        x.poll(0, 4);
        dueHand(x, 0, 0, 0, 1, 0, 1, 0, 3, 2, 0);
        x.poll(1, 4);
        dueHand(x, 2, 1, 0, 3, 0);
        x.poll(2, 4);
        dueHand(x);
    }

    private static void theConstants() {
        CHECK.begin("the constants");
        CHECK.due("ANY", UpcastStreams.ANY, -1);
        CHECK.due("NONE", UpcastStreams.NONE, -1);
    }
}
