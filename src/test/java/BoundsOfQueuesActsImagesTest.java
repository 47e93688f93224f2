/** Promises 25 to 33, queues, acts, the image: a test for each sentence that names a boundary case. */
public final class BoundsOfQueuesActsImagesTest extends Sentences {
    private static OtherwiseCourt before(int kind, int v, int... points) {
        OtherwiseCourt x = suits(points);
        x.judge(kind, v);
        return x;
    }

    // ---- 25 queue

    static void promise25QueueTellsHowManyThereAre() {
        OtherwiseCourt x = suits(3, 12);
        for (int k = 1; k <= 8; k++) {
            due(x.queue(k % 2), k);
            due(x.count(4), k);
        }
    }

    static void promise25QueueOfTheFirstAndTheLastSuit() {
        OtherwiseCourt x = full();
        x.queue(-1);
        due(x.queue(0), 1);
        due(x.queue(7), 2);
    }

    static void promise25QueueMinus1IsNoneThen() {
        OtherwiseCourt x = full();
        due(x.queue(-1), 0);
        due(x.count(4), 0);
        due(x.odds(0, 0, 0), NO);
        due(x.queue(3), 1);
    }

    static void promise25QueueMinus1OfAnEmptyQueue() {
        due(nothing().queue(-1), 0);
        due(suits(3).queue(-1), 0);
    }

    static void promise25QueueMinus1ChangesNothingElse() {
        changesNothing(() -> {
            OtherwiseCourt x = full();
            x.queue(-1);
            return x;
        }, 0, x -> x.queue(-1));
        OtherwiseCourt x = full();
        x.queue(-1);
        int[] many = {8, 4, 5, 24, 0, 100, 4};
        for (int what = 0; what <= 6; what++) {
            due(x.count(what), many[what]);
        }
    }

    static void promise25QueueOfNoSuchSuit() {
        dueWithEach(s -> some().queue(s), NONE, -2, 3, 8, LOWEST, HIGHEST);
        due(nothing().queue(0), NONE);
    }

    static void promise25QueueOfThe9thIsFull() {
        due(full().queue(0), FULL);
        due(full().queue(7), FULL);
    }

    static void promise25QueueIsNoneAheadOfFull() {
        due(full().queue(8), NONE);
        due(full().queue(-2), NONE);
    }

    static void promise25QueueIsNotTheBook() {
        OtherwiseCourt x = suits(3);
        x.queue(0);
        due(x.count(3), 0);
    }

    static void promise25QueueRefusedChangesNothing() {
        changesNothing(Sentences::some, NONE, x -> x.queue(3));
        changesNothing(Sentences::some, NONE, x -> x.queue(-2));
        changesNothing(Sentences::full, FULL, x -> x.queue(0));
    }

    // ---- 26 odds

    private static void odds(OtherwiseCourt x, int k, long above, long below) {
        due(x.odds(0, k, 0), above);
        due(x.odds(0, k, 1), below);
    }

    private static void expects(OtherwiseCourt x, long above, long below) {
        due(x.expects(0, 0), above);
        due(x.expects(0, 1), below);
    }

    static void promise26OddsInAnEmptyQueue() {
        due(before(LAST, 1, 3).odds(0, 0, 0), NO);
        due(before(LAST, 1, 3).odds(0, 0, 1), NO);
    }

    static void promise26OddsOfNoSuchK() {
        for (int k : new int[] {-1, 3, 8, LOWEST, HIGHEST}) {
            due(some().odds(0, k, 0), NO);
        }
        for (int k : new int[] {-1, 8, 9, LOWEST, HIGHEST}) {
            due(full().odds(0, k, 1), NO);
        }
    }

    static void promise26OddsOfTheFirstAndTheLastOf8() {
        OtherwiseCourt x = full();
        x.enter(-1, true);
        odds(x, 0, 1, 2);
        odds(x, 7, 1, 2);
        x.row(1, 3, 2);
        due(x.odds(1, 0, 0), 0);
        due(x.odds(1, 7, 0), 1);
    }

    static void promise26OddsOfNoSuchPart() {
        for (int part : new int[] {-1, 2, LOWEST, HIGHEST}) {
            due(some().odds(0, 0, part), NO);
        }
    }

    static void promise26OddsOfNoSuchJudge() {
        for (int j : new int[] {-1, 3, 4, LOWEST, HIGHEST}) {
            due(some().odds(j, 0, 0), NO);
        }
        due(nothing().odds(0, 0, 0), NO);
    }

    static void promise26OddsAreACoinInPlaceOfV() {
        for (int v = 0; v <= 9; v++) {
            OtherwiseCourt x = before(MOST, v, 3, 12);
            queue(x, 0, 1);
            odds(x, 0, 1, 2);
            odds(x, 1, 1, 2);
        }
    }

    static void promise26OddsThatAreSure() {
        OtherwiseCourt x = before(LAST, 0, 3);
        enter(x, 0);
        queue(x, 0, 0);
        odds(x, 0, 1, 1);
    }

    static void promise26OddsThatAreNone() {
        OtherwiseCourt x = before(LAST, 1, 3);
        enter(x, 1);
        queue(x, 0, 0);
        odds(x, 0, 0, 1);
        odds(x, 1, 1, 1);
    }

    static void promise26OddsOfOneLikeAnotherOfTheQueue() {
        OtherwiseCourt x = before(JUDGE, 1, 3, 12, 7);
        queue(x, 0, 0, 0);
        odds(x, 0, 1, 2);
        odds(x, 1, 1, 2);
        odds(x, 2, 1, 2);
        expects(x, 15, 1);
    }

    static void promise26OddsInLowestTerms() {
        OtherwiseCourt x = before(ORDERLY, 5, 3, 12, 48, 192, 15, 63, 255);
        queue(x, 0, 1, 4);
        odds(x, 2, 3, 4);
        x.queue(-1);
        queue(x, 0, 1, 2, 5);
        odds(x, 3, 7, 8);
        x.queue(-1);
        queue(x, 0, 1, 2, 3, 6);
        odds(x, 4, 15, 16);
    }

    private static OtherwiseCourt sevenCoins(int v) {
        OtherwiseCourt x = nothing();
        for (int p = 0; p < 7; p++) {
            x.suit(1 << p, 0);
        }
        x.suit(127, 1);
        x.judge(ORDERLY, v);
        court(x, "bar 1");
        queue(x, 0, 1, 2, 3, 4, 5, 6, 7);
        return x;
    }

    static void promise26OddsOfTheLastOf8BehindSevenCoins() {
        odds(sevenCoins(5), 7, 127, 128);
        odds(sevenCoins(4), 7, 1, 128);
    }

    static void promise26OddsOf8Coins() {
        OtherwiseCourt x = nothing();
        for (int p = 0; p < 8; p++) {
            x.suit(1 << p, 99);
            x.queue(p);
        }
        x.judge(LAST, 1);
        for (int k = 0; k < 8; k++) {
            odds(x, k, 1, 2);
        }
        expects(x, 396, 1);
    }

    static void promise26OddsHaveTheRowAheadOfACoin() {
        OtherwiseCourt x = before(TOLD, 1, 1, 3, 7, 15);
        x.row(0, 1, 1);
        x.row(0, 2, 2);
        queue(x, 0, 3);
        odds(x, 0, 1, 1);
        odds(x, 1, 1, 2);
        x.queue(-1);
        queue(x, 1, 1);
        odds(x, 0, 0, 1);
        odds(x, 1, 0, 1);
    }

    static void promise26OddsGoOnFromTheBook() {
        OtherwiseCourt x = before(MOST, 0, 3, 12);
        enter(x, 1, 0, 2);
        queue(x, 0, 1, 0);
        odds(x, 0, 0, 1);
        odds(x, 1, 1, 1);
        odds(x, 2, 1, 1);
    }

    static void promise26OddsGoOnWithEntriesBeyond24() {
        OtherwiseCourt x = before(LAST, 0, 3, 12);
        enterTimes(x, 23, 0);
        enter(x, 1);
        queue(x, 0, 0, 0, 0, 0, 0, 0, 1);
        for (int k = 0; k < 7; k++) {
            odds(x, k, k % 2, 1);
        }
        odds(x, 7, 1, 2);
        expects(x, 30 + 10, 1);
    }

    static void promise26OddsOfNearBehindTheBook() {
        OtherwiseCourt x = before(NEAR, 1, 3, 15, 48);
        enter(x, 3);
        queue(x, 0, 1, 2);
        odds(x, 0, 0, 1);
        odds(x, 1, 0, 1);
        odds(x, 2, 1, 2);
        expects(x, 15, 1);
    }

    static void promise26OddsChangeNothing() {
        changesNothing(Sentences::some, x -> x.odds(0, 1, 0));
        changesNothing(Sentences::full, x -> x.odds(3, 7, 1));
        changesNothing(Sentences::some, NO, x -> x.odds(0, 3, 0));
    }

    // ---- 27 expects

    static void promise27ExpectsOfAnEmptyQueue() {
        expects(before(LAST, 1, 3), 0, 1);
    }

    static void promise27ExpectsNothing() {
        OtherwiseCourt x = before(TOLD, 1, 3);
        x.row(0, 2, 2);
        queue(x, 0, 0);
        expects(x, 0, 1);
    }

    static void promise27ExpectsOfWorth0() {
        OtherwiseCourt x = nothing();
        x.suit(3, 0);
        x.judge(LAST, 1);
        queue(x, 0, 0);
        expects(x, 0, 1);
    }

    static void promise27ExpectsTheMost() {
        OtherwiseCourt x = nothing();
        x.suit(1, 99);
        x.judge(TOLD, 0);
        x.row(0, 1, 1);
        queue(x, 0, 0, 0, 0, 0, 0, 0, 0);
        expects(x, 792, 1);
    }

    static void promise27ExpectsInLowestTerms() {
        OtherwiseCourt x = nothing();
        x.suit(1, 7);
        x.suit(2, 4);
        x.judge(LAST, 0);
        x.queue(0);
        expects(x, 7, 2);
        x.queue(1);
        expects(x, 11, 2);
        x.queue(-1);
        x.queue(1);
        expects(x, 2, 1);
    }

    static void promise27ExpectsBehindSevenCoins() {
        expects(sevenCoins(5), 127, 128);
        expects(sevenCoins(4), 1, 128);
    }

    static void promise27ExpectsOfOneSuitMoreThanOnce() {
        OtherwiseCourt x = before(LAST, 0, 0);
        queue(x, 0, 0, 0);
        expects(x, 15, 1);
    }

    static void promise27ExpectsOfNoSuchPart() {
        for (int part : new int[] {-1, 2, LOWEST, HIGHEST}) {
            due(some().expects(0, part), NO);
        }
    }

    static void promise27ExpectsOfNoSuchJudge() {
        for (int j : new int[] {-1, 3, 4, LOWEST, HIGHEST}) {
            due(some().expects(j, 0), NO);
        }
        due(nothing().expects(0, 1), NO);
    }

    static void promise27ExpectsChangesNothing() {
        changesNothing(Sentences::some, x -> x.expects(0, 0));
        changesNothing(Sentences::full, x -> x.expects(3, 1));
        changesNothing(Sentences::some, NO, x -> x.expects(0, 2));
    }

    // ---- 28 act

    /** The second judge, of this kind and with v 6, with the bodies that are due. */
    private static void acts(int kind, int act, int x, int answer, int... bodies) {
        OtherwiseCourt court = nothing();
        court.judge(JUDGE, 0);
        court.judge(kind, 6);
        due(court.act(1, act, x), answer);
        due(court.count(6), bodies.length);
        for (int i = 0; i < bodies.length; i++) {
            due(court.trace(i), bodies[i]);
        }
        due(court.trace(bodies.length), NONE);
    }

    static void promise28ActsOfJudge() {
        acts(JUDGE, 0, 10, 11, 1);
        acts(JUDGE, 1, 10, 5, 2, 1);
        acts(JUDGE, 2, 10, 10, 3, 2, 1);
    }

    static void promise28ActsOfLast() {
        acts(LAST, 0, 10, 31, 11, 1);
        acts(LAST, 1, 10, 25, 2, 11, 1);
        acts(LAST, 2, 10, 50, 3, 2, 11, 1);
    }

    static void promise28ActsOfNear() {
        acts(NEAR, 0, 10, 11, 1);
        acts(NEAR, 1, 10, -5, 21, 2, 1);
        acts(NEAR, 2, 10, -10, 3, 21, 2, 1);
    }

    static void promise28ActsOfMost() {
        acts(MOST, 0, 10, 11, 1);
        acts(MOST, 1, 10, 5, 2, 1);
        acts(MOST, 2, 10, 13, 31, 3, 2, 1);
    }

    static void promise28ActsOfOrderly() {
        acts(ORDERLY, 0, 10, 31, 11, 1);
        acts(ORDERLY, 1, 10, 25, 2, 11, 1);
        acts(ORDERLY, 2, 10, 44 + 7, 41, 3, 2, 11, 1, 11, 1);
    }

    static void promise28ActsOfStrict() {
        acts(STRICT, 0, 10, 10, 51, 1);
        acts(STRICT, 1, 10, -4, 21, 2, 51, 1);
        acts(STRICT, 2, 10, -8, 3, 21, 2, 51, 1);
    }

    static void promise28ActsOfTold() {
        acts(TOLD, 0, 10, 11, 1);
        acts(TOLD, 1, 10, 11, 61, 2, 1);
        acts(TOLD, 2, 10, 17, 31, 3, 61, 2, 1);
    }

    static void promise28ActWrapsAround() {
        acts(JUDGE, 0, HIGHEST, LOWEST, 1);
        acts(JUDGE, 1, LOWEST, HIGHEST - 4, 2, 1);
        acts(JUDGE, 2, (1 << 30) + 4, HIGHEST - 1, 3, 2, 1);
        acts(JUDGE, 2, (1 << 30) + 5, LOWEST, 3, 2, 1);
        acts(LAST, 0, HIGHEST, HIGHEST - 1, 11, 1);
        acts(LAST, 0, LOWEST, LOWEST + 1, 11, 1);
        acts(LAST, 0, 1 << 30, -(1 << 30) + 1, 11, 1);
        acts(NEAR, 1, LOWEST + 5, LOWEST, 21, 2, 1);
        acts(MOST, 2, (1 << 30) + 5, LOWEST + 7, 31, 3, 2, 1);
        acts(ORDERLY, 2, LOWEST, (HIGHEST - 1 - 6) * 2 + 7, 41, 3, 2, 11, 1, 11, 1);
        acts(STRICT, 0, HIGHEST, LOWEST + 1, 51, 1);
        acts(TOLD, 1, HIGHEST, LOWEST, 61, 2, 1);
    }

    static void promise28ActOfTheLastJudge() {
        OtherwiseCourt x = nothing();
        for (int j = 0; j < 4; j++) {
            x.judge(STRICT, j);
        }
        due(x.act(3, 0, 1), 7);
        due(x.act(0, 0, 1), 1);
    }

    static void promise28ActOfNoSuchJudgeIs0AndNoTrace() {
        for (int j : new int[] {-1, 3, 4, LOWEST, HIGHEST}) {
            OtherwiseCourt x = some();
            x.act(0, 2, 5);
            due(x.act(j, 2, 5), 0);
            due(x.count(6), 0);
            due(x.trace(0), NONE);
        }
        due(nothing().act(0, 0, 5), 0);
    }

    static void promise28ActOfNoSuchActIs0AndNoTrace() {
        for (int act : new int[] {-1, 3, LOWEST, HIGHEST}) {
            OtherwiseCourt x = some();
            x.act(0, 2, 5);
            due(x.act(0, act, 5), 0);
            due(x.count(6), 0);
            due(x.trace(0), NONE);
        }
    }

    private static OtherwiseCourt someWithoutATrace() {
        OtherwiseCourt x = some();
        x.act(-1, 0, 0);
        return x;
    }

    static void promise28ActChangesTheTraceAlone() {
        changesNothing(BoundsOfQueuesActsImagesTest::someWithoutATrace, x -> {
            x.act(2, 2, 77);
            return x.act(-1, 0, 0);
        });
    }

    static void promise28ActRefusedChangesTheTraceAlone() {
        changesNothing(BoundsOfQueuesActsImagesTest::someWithoutATrace, 0, x -> x.act(3, 2, 77));
        changesNothing(BoundsOfQueuesActsImagesTest::someWithoutATrace, 0, x -> x.act(0, 3, 77));
    }

    // ---- 29 trace

    static void promise29TraceAheadOfAnyAct() {
        dueWithEach(i -> full().trace(i), NONE, -1, 4, 19, 20);
        dueWithEach(i -> nothing().trace(i), NONE, -1, 0, 19, 20, LOWEST, HIGHEST);
    }

    static void promise29TraceOfNoSuchI() {
        dueWithEach(i -> some().trace(i), NONE, -1, 7, 19, 20, LOWEST, HIGHEST);
        due(some().trace(6), 1);
        due(some().trace(0), 41);
    }

    static void promise29TraceOfTheLatestActAlone() {
        OtherwiseCourt x = some();
        due(x.count(6), 7);
        x.act(0, 0, 5);
        due(x.count(6), 2);
        due(x.trace(0), 11);
        due(x.trace(1), 1);
        due(x.trace(2), NONE);
    }

    static void promise29TraceChangesNothing() {
        changesNothing(Sentences::some, 41, x -> x.trace(0));
        changesNothing(Sentences::some, NONE, x -> x.trace(7));
    }

    // ---- 30 as

    private static void asKinds(int kind, int... above) {
        OtherwiseCourt x = nothing();
        x.judge(kind, 9);
        for (int k = 0; k < 7; k++) {
            boolean is = k == kind;
            for (int a : above) {
                is |= k == a;
            }
            due(x.as(0, k), is ? 9 : STRANGER);
        }
    }

    static void promise30AsOfJudge() {
        asKinds(JUDGE);
    }

    static void promise30AsOfAKindUnderJudge() {
        asKinds(LAST, JUDGE);
        asKinds(NEAR, JUDGE);
        asKinds(MOST, JUDGE);
    }

    static void promise30AsOfAKindUnderOneUnderJudge() {
        asKinds(ORDERLY, LAST, JUDGE);
        asKinds(STRICT, NEAR, JUDGE);
        asKinds(TOLD, MOST, JUDGE);
    }

    static void promise30AsTellsV0() {
        OtherwiseCourt x = nothing();
        x.judge(STRICT, 0);
        due(x.as(0, NEAR), 0);
        due(x.as(0, LAST), STRANGER);
    }

    static void promise30AsOfNoSuchJudge() {
        dueWithEach(j -> some().as(j, 0), NONE, -1, 3, 4, LOWEST, HIGHEST);
        due(nothing().as(0, 0), NONE);
    }

    static void promise30AsOfNoSuchKind() {
        dueWithEach(k -> some().as(0, k), NONE, -1, 7, LOWEST, HIGHEST);
    }

    static void promise30AsOfNoSuchJudgeIsNoneAheadOfAnotherKind() {
        due(some().as(3, 5), NONE);
        due(some().as(0, 5), STRANGER);
    }

    static void promise30AsChangesNothing() {
        changesNothing(Sentences::some, 5, x -> x.as(2, LAST));
        changesNothing(Sentences::some, STRANGER, x -> x.as(0, ORDERLY));
        changesNothing(Sentences::some, NONE, x -> x.as(0, 7));
    }

    // ---- 31 image

    static void promise31ImageOfNothing() {
        due(nothing().image(), 0);
    }

    static void promise31ImageOfAllThereCanBe() {
        due(full().image(), 8);
    }

    static void promise31ImageTellsHowManySuitsThereAre() {
        OtherwiseCourt x = nothing();
        for (int s = 0; s < 8; s++) {
            due(x.image(), s);
            x.suit(1, 1);
        }
        due(x.image(), 8);
    }

    static void promise31ImageOfTheNewestTime() {
        OtherwiseCourt x = suits(3);
        x.image();
        x.suit(12, 5);
        due(x.image(), 2);
        x.suit(48, 5);
        due(x.undo(), 2);
        due(x.of(1, 0), 12);
        due(x.of(2, 0), NONE);
    }

    static void promise31ImageChangesNothingElse() {
        OtherwiseCourt x = some();
        x.image();
        int[] many = {3, 3, 3, 4, 3, 5, 7};
        for (int what = 0; what <= 6; what++) {
            due(x.count(what), many[what]);
        }
        due(x.trace(0), 41);
        due(x.told(0), 6);
        due(x.told(1), 1);
        due(x.row(1, 3, 0), 2);
        due(x.entry(3), 5);
    }

    // ---- 32 undo

    static void promise32UndoWithoutAnImage() {
        due(nothing().undo(), STATE);
        due(suits(3, 12).undo(), STATE);
        due(suits(3, 12).count(0), 2);
    }

    static void promise32UndoRefusedChangesNothing() {
        changesNothing(() -> {
            OtherwiseCourt x = suits(3, 12);
            x.judge(TOLD, 3);
            x.row(0, 2, 1);
            x.day(4);
            enter(x, 1, 3);
            queue(x, 1);
            feed(x, "bar 7");
            x.act(0, 2, 5);
            return x;
        }, STATE, OtherwiseCourt::undo);
    }

    static void promise32UndoToNothing() {
        OtherwiseCourt x = nothing();
        x.image();
        x.suit(3, 5);
        x.judge(TOLD, 3);
        x.day(4);
        court(x, "bar 7");
        feed(x, "bar");
        x.enter(0, true);
        x.queue(0);
        due(x.undo(), 0);
        for (int what = 0; what <= 6; what++) {
            due(x.count(what), 0);
        }
        due(x.told(0), 0);
        due(x.told(1), 2);
        due(x.judge(TOLD, 1), 0);
        for (int k = 0; k < 4; k++) {
            due(x.row(0, k, 0), 0);
        }
    }

    static void promise32UndoToAllThereCanBe() {
        OtherwiseCourt x = full();
        x.image();
        x.enter(-1, true);
        x.queue(-1);
        x.court();
        x.day(0);
        due(x.undo(), 8);
        int[] many = {8, 4, 5, 24, 8, 100};
        for (int what = 0; what <= 5; what++) {
            due(x.count(what), many[what]);
        }
        due(x.suit(1, 1), FULL);
        due(x.judge(1, 1), FULL);
        due(x.enter(1, true), FULL);
        due(x.queue(1), FULL);
        due(x.feed(1), FULL);
        due(x.court(), FULL);
        due(x.told(0), 9);
    }

    static void promise32UndoOfSuits() {
        OtherwiseCourt x = suits(3, 12);
        x.image();
        x.suit(48, 9);
        due(x.undo(), 2);
        due(x.count(0), 2);
        due(x.of(2, 0), NONE);
        due(x.suit(49, 8), 2);
        due(x.of(2, 0), 49);
        due(x.of(2, 1), 8);
        due(x.of(1, 0), 12);
        due(x.of(1, 1), 20);
    }

    static void promise32UndoOfJudges() {
        OtherwiseCourt x = nothing();
        x.judge(LAST, 7);
        x.image();
        x.judge(TOLD, 3);
        x.undo();
        due(x.count(1), 1);
        due(x.at(1, 0), NONE);
        due(x.judge(NEAR, 4), 1);
        due(x.at(0, 0), LAST);
        due(x.at(0, 1), 7);
        due(x.at(1, 0), NEAR);
        due(x.at(1, 1), 4);
    }

    static void promise32UndoOfRows() {
        OtherwiseCourt x = nothing();
        x.judge(TOLD, 7);
        x.row(0, 0, 1);
        x.row(0, 3, 2);
        x.image();
        for (int k = 0; k < 4; k++) {
            x.row(0, k, 1);
        }
        x.undo();
        due(x.row(0, 0, 0), 1);
        due(x.row(0, 1, 0), 0);
        due(x.row(0, 2, 0), 0);
        due(x.row(0, 3, 0), 2);
    }

    static void promise32UndoOfTheRowOfEachJudge() {
        OtherwiseCourt x = nothing();
        for (int j = 0; j < 4; j++) {
            x.judge(TOLD, j);
            for (int k = 0; k < 4; k++) {
                x.row(j, k, (j + k) % 3);
            }
        }
        x.image();
        for (int j = 0; j < 4; j++) {
            for (int k = 0; k < 4; k++) {
                due(x.row(j, k, (j + k + 1) % 3), (j + k) % 3);
            }
        }
        x.undo();
        for (int j = 0; j < 4; j++) {
            for (int k = 0; k < 4; k++) {
                due(x.row(j, k, 0), (j + k) % 3);
            }
        }
    }

    /** All of it, not just how many there are. */
    static void promise32UndoBringsBackAllThereCanBe() {
        OtherwiseCourt x = full();
        x.image();
        x.enter(-1, true);
        enterTimes(x, 24, 0);
        x.queue(-1);
        queue(x, 7, 7, 7, 7, 7, 7, 7, 7);
        x.row(1, 2, 0);
        x.row(1, 3, 1);
        x.day(0);
        x.undo();
        sameAnswers(answers(x), answers(full()));
    }

    /** The tape and the court that holds, up to their 100th sign. */
    static void promise32UndoBringsBackATapeAndACourtOf100Signs() {
        OtherwiseCourt x = nothing();
        x.judge(JUDGE, 0);
        String start = longCourt().substring(0, 96);
        due(court(x, start + "|p=7"), 0);
        feed(x, start + "|p=6");
        x.image();
        due(x.court(), 1);
        due(x.at(0, 16), 11);
        due(x.at(0, 17), 1);
        feed(x, "bar 1");
        x.undo();
        due(x.at(0, 16), 1);
        due(x.at(0, 17), 11);
        due(x.count(5), 100);
        due(x.court(), 1);
        due(x.at(0, 16), 11);
        due(x.at(0, 17), 1);
    }

    static void promise32UndoOfANewJudgesRow() {
        OtherwiseCourt x = nothing();
        x.image();
        x.judge(TOLD, 7);
        x.row(0, 2, 1);
        x.undo();
        x.judge(TOLD, 7);
        due(x.row(0, 2, 0), 0);
    }

    static void promise32UndoOfTheDay() {
        OtherwiseCourt x = nothing();
        x.day(3);
        x.image();
        x.day(8);
        x.undo();
        due(x.told(0), 3);
    }

    static void promise32UndoOfCourts() {
        OtherwiseCourt x = nothing();
        x.judge(JUDGE, 0);
        court(x, "bar 9;weigh 5 p=1");
        x.image();
        court(x, "bar 1;weigh 6 p=1;weigh 7 p=0");
        due(x.count(2), 2);
        x.undo();
        due(x.count(2), 1);
        due(x.told(1), 9);
        due(x.at(0, 11), 6);
        due(x.at(0, 10), 1);
        due(court(x, "bar 4"), 1);
    }

    static void promise32UndoOfTheFirstCourt() {
        OtherwiseCourt x = nothing();
        x.judge(JUDGE, 0);
        x.image();
        court(x, "bar 1;weigh 6 p=1");
        x.undo();
        due(x.count(2), 0);
        due(x.told(1), 2);
        due(x.at(0, 11), 1);
    }

    static void promise32UndoOfFullCourts() {
        OtherwiseCourt x = nothing();
        for (int n = 0; n < 4; n++) {
            court(x, "bar " + n);
        }
        x.image();
        due(court(x, "bar 8"), 4);
        due(court(x, "bar 9"), FULL);
        x.undo();
        due(x.told(1), 3);
        due(court(x, "bar 7"), 4);
        due(x.told(1), 7);
    }

    static void promise32UndoOfTheBook() {
        OtherwiseCourt x = suits(3, 12);
        enter(x, 3, 0);
        x.image();
        x.enter(-1, true);
        enter(x, 0, 1, 2);
        x.undo();
        due(x.count(3), 2);
        due(x.entry(0), 3);
        due(x.entry(1), 0);
        due(x.entry(2), NONE);
    }

    static void promise32UndoOfTheQueue() {
        OtherwiseCourt x = before(TOLD, 1, 1, 3);
        x.row(0, 1, 1);
        x.row(0, 2, 2);
        queue(x, 1, 0);
        x.image();
        x.queue(-1);
        queue(x, 0, 1, 1);
        x.undo();
        due(x.count(4), 2);
        due(x.odds(0, 0, 0), 0);
        due(x.odds(0, 1, 0), 1);
    }

    static void promise32UndoOfTheTape() {
        OtherwiseCourt x = nothing();
        feed(x, "bar ");
        x.image();
        feed(x, "x");
        x.court();
        feed(x, "clash 1");
        x.undo();
        due(x.count(5), 4);
        feed(x, "7");
        due(x.court(), 0);
        due(x.told(1), 7);
    }

    static void promise32UndoOfATapeThatWasEmpty() {
        OtherwiseCourt x = nothing();
        x.image();
        feed(x, "bar 9;");
        x.undo();
        due(x.count(5), 0);
        due(court(x, "bar 8"), 0);
        due(x.told(1), 8);
    }

    static void promise32UndoLeavesTheTrace() {
        OtherwiseCourt x = nothing();
        x.judge(LAST, 0);
        x.act(0, 0, 5);
        x.image();
        x.act(0, 2, 5);
        x.undo();
        due(x.count(6), 4);
        due(x.trace(0), 3);
        due(x.trace(3), 1);
    }

    static void promise32UndoLeavesTheImage() {
        OtherwiseCourt x = suits(3, 12);
        x.image();
        for (int times = 0; times < 3; times++) {
            x.suit(5, 5);
            enter(x, 1);
            x.day(4);
            due(x.undo(), 2);
            due(x.count(0), 2);
            due(x.count(3), 0);
            due(x.told(0), 0);
        }
    }

    // ---- 33 count

    static void promise33CountOfNothing() {
        for (int what = 0; what <= 6; what++) {
            due(nothing().count(what), 0);
        }
    }

    static void promise33CountOfSome() {
        int[] many = {3, 3, 3, 4, 3, 5, 7};
        for (int what = 0; what <= 6; what++) {
            due(some().count(what), many[what]);
        }
    }

    static void promise33CountOfAllThereCanBe() {
        int[] many = {8, 4, 5, 24, 8, 100, 4};
        for (int what = 0; what <= 6; what++) {
            due(full().count(what), many[what]);
        }
    }

    static void promise33CountOfNoSuchWhat() {
        dueWithEach(what -> some().count(what), NONE, -1, 7, LOWEST, HIGHEST);
    }

    static void promise33CountChangesNothing() {
        changesNothing(Sentences::some, 3, x -> x.count(0));
        changesNothing(Sentences::some, NONE, x -> x.count(7));
    }

    public static void main(String[] args) throws IllegalAccessException {
        runAll(BoundsOfQueuesActsImagesTest.class, 25, 33);
    }
}
