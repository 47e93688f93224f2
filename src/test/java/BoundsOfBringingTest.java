/** Promises 16 to 24, what to bring, books: a test for each sentence that names a boundary case. */
public final class BoundsOfBringingTest extends Sentences {
    /** One judge of this kind over suits with these points. */
    private static OtherwiseCourt before(int kind, int v, int... points) {
        OtherwiseCourt x = suits(points);
        x.judge(kind, v);
        return x;
    }

    /** Suits that are all alike: a LAST one decides them by turns, the first as v tells. */
    private static OtherwiseCourt alike(int v, int many) {
        OtherwiseCourt x = nothing();
        for (int s = 0; s < many; s++) {
            x.suit(3, 10 * s + 10);
        }
        x.judge(LAST, v);
        return x;
    }

    /** Suits that are like none: each is decided as v tells. */
    private static OtherwiseCourt unlike(int v, int many) {
        return before(LAST, v, new int[many]);
    }

    private static void best(OtherwiseCourt x, int set, int much, int... order) {
        due(x.best(0, set, -1), much);
        for (int k = 0; k <= 5; k++) {
            due(x.best(0, set, k), k < order.length ? order[k] : NOTHING);
        }
    }

    // ---- 16 best

    static void promise16BestOfNone() {
        best(alike(1, 3), 0, 0);
        best(alike(1, 0), 0, 0);
    }

    static void promise16BestOf1() {
        best(alike(1, 3), 4, 30, 2);
        best(alike(0, 3), 4, 0, 2);
    }

    static void promise16BestOfTheFirstAndTheLastSuit() {
        best(alike(0, 8), 129, 80, 0, 7);
        best(alike(1, 8), 129, 80, 7, 0);
    }

    static void promise16BestOf6() {
        best(alike(0, 8), 63, 40 + 50 + 60, 0, 3, 1, 4, 2, 5);
        best(alike(1, 8), 252, 60 + 70 + 80, 5, 2, 6, 3, 7, 4);
    }

    static void promise16BestOf7OrMoreIsBad() {
        dueWithEach(set -> alike(0, 8).best(0, set, -1), BAD_FAR, 127, 254, 191, 255);
    }

    static void promise16BestOfNoSuchSuitsIsBad() {
        dueWithEach(set -> alike(0, 2).best(0, set, -1), BAD_FAR, 4, 5, 128, 256, -1, -4, LOWEST, HIGHEST);
        dueWithEach(set -> alike(0, 8).best(0, set, 0), BAD_FAR, 256, 257, 1 << 30, -1, LOWEST, HIGHEST);
        due(alike(0, 0).best(0, 1, -1), BAD_FAR);
    }

    static void promise16BestOfNoSuchJudge() {
        dueWithEach(j -> some().best(j, 1, -1), NONE_FAR, -1, 3, 4, LOWEST, HIGHEST);
        due(nothing().best(0, 0, -1), NONE_FAR);
    }

    static void promise16BestOfNoSuchK() {
        dueWithEach(k -> alike(0, 8).best(0, 63, k), NONE_FAR, -2, 6, LOWEST, HIGHEST);
    }

    static void promise16BestBehindTheLastIsMinus5() {
        due(alike(0, 8).best(0, 31, 5), NOTHING);
        due(alike(0, 8).best(0, 3, 2), NOTHING);
    }

    static void promise16BestIsNoneAheadOfBad() {
        due(some().best(3, -1, 0), NONE_FAR);
        due(some().best(0, -1, 6), NONE_FAR);
        due(full().best(0, 255, -2), NONE_FAR);
    }

    static void promise16BestOfSeveralIsTheFirstRow() {
        best(unlike(1, 4), 15, 100, 0, 1, 2, 3);
        best(unlike(0, 4), 15, 0, 0, 1, 2, 3);
        best(alike(1, 3), 7, 50, 1, 0, 2);
    }

    static void promise16BestOfWorth0IsTheFirstRow() {
        OtherwiseCourt x = nothing();
        x.suit(3, 0);
        x.suit(3, 0);
        x.suit(3, 0);
        x.judge(LAST, 1);
        best(x, 7, 0, 0, 1, 2);
    }

    static void promise16BestOfTheGreatestWorth() {
        OtherwiseCourt x = nothing();
        for (int s = 0; s < 6; s++) {
            x.suit(0, 99);
        }
        x.judge(LAST, 1);
        best(x, 63, 594, 0, 1, 2, 3, 4, 5);
    }

    static void promise16BestGoesOnFromTheBook() {
        OtherwiseCourt x = alike(1, 3);
        enter(x, 1);
        best(x, 7, 30, 0, 2, 1);
    }

    static void promise16BestGoesOnWithEntriesBeyond24() {
        OtherwiseCourt x = alike(0, 6);
        enterTimes(x, 23, 0);
        enter(x, 1);
        best(x, 63, 40 + 50 + 60, 0, 3, 1, 4, 2, 5);
    }

    /** What the book has nearest stays so behind what is heard. */
    static void promise16BestOfNearBehindTheBook() {
        OtherwiseCourt x = before(NEAR, 1, 3, 15);
        enter(x, 3);
        best(x, 2, 0, 1);
        best(x, 3, 10, 1, 0);
    }

    static void promise16BestChangesNothing() {
        changesNothing(Sentences::some, x -> x.best(0, 7, -1));
        changesNothing(Sentences::full, x -> x.best(2, 63, 5));
        changesNothing(Sentences::some, BAD_FAR, x -> x.best(0, 8, -1));
        changesNothing(Sentences::some, NONE_FAR, x -> x.best(0, 1, 6));
    }

    // ---- 17 shams

    private static void shams(OtherwiseCourt x, int suit, int many, int first, int second) {
        due(x.shams(0, suit, -1), many);
        due(x.shams(0, suit, 0), first);
        due(x.shams(0, suit, 1), second);
    }

    static void promise17ShamsAre0IfItIsForItAsItIs() {
        shams(before(LAST, 1, 3), 0, 0, NOTHING, NOTHING);
    }

    static void promise17ShamsAre1() {
        shams(before(LAST, 0, 3), 0, 1, 3, NOTHING);
    }

    static void promise17ShamsAre2() {
        OtherwiseCourt x = before(MOST, 0, 3);
        enter(x, 0, 1, 1, 1);
        shams(x, 0, 2, 3, 3);
    }

    static void promise17ShamsAreNot3() {
        OtherwiseCourt x = before(MOST, 0, 3);
        enter(x, 0, 1, 1, 1, 1);
        shams(x, 0, NOTHING, NOTHING, NOTHING);
    }

    static void promise17ShamsThereAreNone() {
        OtherwiseCourt x = before(JUDGE, 0, 3);
        enter(x, 1);
        shams(x, 0, NOTHING, NOTHING, NOTHING);
    }

    static void promise17ShamsOfPoints0() {
        OtherwiseCourt x = before(LAST, 0, 255);
        court(x, "bar 0");
        shams(x, 0, 1, 0, NOTHING);
    }

    static void promise17ShamsOfPoints63() {
        OtherwiseCourt x = before(LAST, 0, 255);
        court(x, "bar 6");
        shams(x, 0, 1, 63, NOTHING);
    }

    static void promise17ShamsAreNotOfPoints64() {
        OtherwiseCourt x = before(LAST, 0, 255, 64, 128);
        court(x, "bar 7");
        shams(x, 0, NOTHING, NOTHING, NOTHING);
        court(x, "bar 1");
        shams(x, 1, NOTHING, NOTHING, NOTHING);
        shams(x, 2, NOTHING, NOTHING, NOTHING);
    }

    private static OtherwiseCourt threeForOneAgainst() {
        OtherwiseCourt x = before(MOST, 0, 255);
        enter(x, 0, 1, 1, 1);
        return x;
    }

    static void promise17ShamsAre2OfPoints0() {
        OtherwiseCourt x = threeForOneAgainst();
        court(x, "bar 0");
        shams(x, 0, 2, 0, 0);
    }

    static void promise17ShamsAre2OfPoints63() {
        OtherwiseCourt x = threeForOneAgainst();
        court(x, "bar 6");
        shams(x, 0, 2, 63, 63);
    }

    static void promise17ShamsOfNearBehindTheBook() {
        OtherwiseCourt x = before(NEAR, 1, 15);
        enter(x, 1);
        shams(x, 0, 1, 15, NOTHING);
    }

    /** Sham 0 is unlike the entry of suit 0, by which sham 1 is decided against. */
    static void promise17ShamsOfPoints0AreDecidedAnewBehindBest() {
        OtherwiseCourt x = before(LAST, 1, 143, 15);
        court(x, "bar 0;clash 1 p=7");
        enter(x, 2, 1);
        shams(x, 1, 1, 1, NOTHING);
        x.best(0, 1, -1);
        shams(x, 1, 1, 1, NOTHING);
    }

    static void promise17ShamsOfSeveralAreTheFirstRow() {
        OtherwiseCourt x = before(LAST, 0, 255);
        shams(x, 0, 1, 3, NOTHING);
        court(x, "bar 2;weigh 1 p=5");
        shams(x, 0, 1, 3, NOTHING);
        court(x, "bar 3;weigh 2 p=4");
        shams(x, 0, 1, 7, NOTHING);
    }

    /**
     * Only sham 63 is like the suit, and is decided for by the entry of 31, which the suit isn't like.
     * Behind a sham that is like it and decided for, it is decided against: 31 is the least.
     */
    static void promise17ShamsAreHeardOneBehindTheOther() {
        OtherwiseCourt x = before(LAST, 0, 191, 31);
        court(x, "clash 1 p=7;bar 5");
        enter(x, 1, 2);
        shams(x, 0, 2, 31, 63);
    }

    static void promise17ShamsGoOnWithEntriesBeyond24() {
        OtherwiseCourt x = before(MOST, 0, 3);
        enterTimes(x, 11, 0);
        enterTimes(x, 13, 1);
        shams(x, 0, 2, 3, 3);
    }

    static void promise17ShamsOfNoSuchJudge() {
        dueWithEach(j -> some().shams(j, 0, -1), NONE, -1, 3, 4, LOWEST, HIGHEST);
        due(nothing().shams(0, 0, 0), NONE);
    }

    static void promise17ShamsOfNoSuchSuit() {
        dueWithEach(s -> some().shams(0, s, -1), NONE, -1, 3, 8, LOWEST, HIGHEST);
    }

    static void promise17ShamsOfNoSuchK() {
        dueWithEach(k -> some().shams(0, 0, k), NONE, -2, 2, LOWEST, HIGHEST);
    }

    static void promise17ShamsOfTheLastJudgeAndSuit() {
        OtherwiseCourt x = alike(1, 8);
        x.judge(LAST, 1);
        x.judge(LAST, 1);
        x.judge(LAST, 0);
        due(x.shams(3, 7, -1), 1);
        due(x.shams(3, 7, 0), 3);
    }

    static void promise17ShamsChangeNothing() {
        changesNothing(Sentences::some, x -> x.shams(0, 2, -1));
        changesNothing(Sentences::full, x -> x.shams(2, 0, 1));
        changesNothing(Sentences::some, NONE, x -> x.shams(0, 0, 2));
    }

    // ---- 18 point

    static void promise18PointIs8IfItIsForItAsItIs() {
        OtherwiseCourt x = before(JUDGE, 1, 0, 3, 255);
        for (int s = 0; s < 3; s++) {
            due(x.point(0, s, 0), 8);
            due(x.point(0, s, 1), 8);
        }
    }

    static void promise18PointIsTheFirst() {
        OtherwiseCourt x = before(JUDGE, 0, 2, 3);
        enter(x, 2);
        due(x.point(0, 0, 0), 0);
    }

    static void promise18PointIsTheLast() {
        OtherwiseCourt x = before(JUDGE, 0, 1, 129);
        enter(x, 2);
        due(x.point(0, 0, 0), 7);
    }

    static void promise18PointOfSeveralIsTheLeast() {
        OtherwiseCourt x = before(JUDGE, 0, 8, 232);
        enter(x, 2);
        due(x.point(0, 0, 0), 5);
    }

    static void promise18PointIsNone() {
        OtherwiseCourt x = before(JUDGE, 0, 3);
        enter(x, 1);
        due(x.point(0, 0, 0), NOTHING);
    }

    static void promise18PointOfAllPointsIsNone() {
        OtherwiseCourt x = before(TOLD, 1, 255);
        x.row(0, 0, 2);
        due(x.point(0, 0, 0), NOTHING);
        due(x.point(0, 0, 1), 0);
    }

    static void promise18DropIsTheFirst() {
        OtherwiseCourt x = before(JUDGE, 1, 3);
        enter(x, 1);
        due(x.point(0, 0, 1), 0);
    }

    static void promise18DropIsTheLast() {
        OtherwiseCourt x = before(JUDGE, 1, 131);
        court(x, "weigh 5 p=7;bar 5");
        enter(x, 1);
        due(x.point(0, 0, 1), 7);
    }

    static void promise18DropOfSeveralIsTheLeast() {
        OtherwiseCourt x = before(JUDGE, 1, 96);
        enter(x, 1);
        due(x.point(0, 0, 1), 5);
    }

    static void promise18DropIsNone() {
        OtherwiseCourt x = before(JUDGE, 0, 3);
        enter(x, 1);
        due(x.point(0, 0, 1), NOTHING);
    }

    static void promise18DropOfNoPointsIsNone() {
        OtherwiseCourt x = before(TOLD, 1, 0);
        x.row(0, 0, 2);
        due(x.point(0, 0, 1), NOTHING);
        due(x.point(0, 0, 0), 0);
    }

    static void promise18PointIsOneThatItHasNotAndDropOneThatItHas() {
        OtherwiseCourt x = before(TOLD, 1, 5);
        x.row(0, 2, 2);
        due(x.point(0, 0, 0), 1);
        due(x.point(0, 0, 1), 0);
        OtherwiseCourt y = before(TOLD, 1, 10);
        y.row(0, 2, 2);
        due(y.point(0, 0, 0), 0);
        due(y.point(0, 0, 1), 1);
    }

    static void promise18PointOfNoSuchJudge() {
        dueWithEach(j -> some().point(j, 0, 0), NONE, -1, 3, 4, LOWEST, HIGHEST);
    }

    static void promise18PointOfNoSuchSuit() {
        dueWithEach(s -> some().point(0, s, 0), NONE, -1, 3, 8, LOWEST, HIGHEST);
    }

    static void promise18PointOfNoSuchWhat() {
        dueWithEach(what -> some().point(0, 0, what), NONE, -1, 2, LOWEST, HIGHEST);
    }

    static void promise18PointGoesOnFromAFullBook() {
        OtherwiseCourt x = before(LAST, 0, 1, 3);
        enterTimes(x, 23, 3);
        enter(x, 2);
        due(x.point(0, 0, 0), 1);
    }

    static void promise18PointChangesNothing() {
        changesNothing(Sentences::some, x -> x.point(0, 2, 0));
        changesNothing(Sentences::full, x -> x.point(2, 6, 1));
        changesNothing(Sentences::some, NONE, x -> x.point(0, 0, 2));
    }

    // ---- 19 rival

    private static void rival(OtherwiseCourt x, int ours, int theirs, int much, int first) {
        due(x.rival(0, ours, theirs, 0), much);
        due(x.rival(0, ours, theirs, 1), first);
    }

    static void promise19RivalOfNone() {
        rival(alike(1, 3), 0, 0, 0, NOTHING);
        rival(alike(1, 0), 0, 0, 0, NOTHING);
    }

    static void promise19RivalWithoutOurs() {
        rival(alike(1, 3), 0, 7, -50, NOTHING);
        rival(alike(0, 3), 0, 7, -30, NOTHING);
    }

    static void promise19RivalWithoutTheirs() {
        rival(alike(1, 3), 7, 0, 50, 1);
        rival(alike(0, 3), 7, 0, 30, 0);
    }

    static void promise19RivalOf1And1() {
        rival(alike(1, 8), 128, 1, 80, 7);
        rival(alike(0, 8), 1, 128, -80, 0);
    }

    static void promise19RivalOf6Together() {
        rival(alike(1, 8), 42, 21, 120, 1);
        rival(alike(0, 8), 7, 56, -150, 0);
        rival(alike(0, 8), 63, 0, 150, 0);
        rival(alike(0, 8), 0, 252, -210, NOTHING);
    }

    static void promise19RivalOf7TogetherIsBad() {
        due(alike(1, 8).rival(0, 15, 112, 0), BAD_FAR);
        due(alike(1, 8).rival(0, 127, 0, 0), BAD_FAR);
        due(alike(1, 8).rival(0, 0, 127, 0), BAD_FAR);
        due(alike(1, 8).rival(0, 15, 240, 1), BAD_FAR);
    }

    static void promise19RivalOfOneInBothIsBad() {
        due(alike(1, 3).rival(0, 1, 1, 0), BAD_FAR);
        due(alike(1, 3).rival(0, 7, 4, 0), BAD_FAR);
        due(alike(1, 8).rival(0, 128, 129, 1), BAD_FAR);
    }

    static void promise19RivalOfNoSuchSuitsIsBad() {
        dueWithEach(set -> alike(1, 3).rival(0, set, 0, 0), BAD_FAR, 8, 256, -1, -8, LOWEST, HIGHEST);
        dueWithEach(set -> alike(1, 3).rival(0, 0, set, 0), BAD_FAR, 8, 256, -1, -8, LOWEST, HIGHEST);
        dueWithEach(set -> alike(1, 8).rival(0, set, 0, 1), BAD_FAR, 256, LOWEST);
        dueWithEach(set -> alike(1, 8).rival(0, 0, set, 1), BAD_FAR, 256, LOWEST);
        due(alike(1, 0).rival(0, 1, 0, 0), BAD_FAR);
    }

    static void promise19RivalOfNoSuchJudge() {
        dueWithEach(j -> some().rival(j, 1, 2, 0), NONE_FAR, -1, 3, 4, LOWEST, HIGHEST);
        due(nothing().rival(0, 0, 0, 0), NONE_FAR);
    }

    static void promise19RivalOfNoSuchWhat() {
        dueWithEach(what -> some().rival(0, 1, 2, what), NONE_FAR, -1, 2, LOWEST, HIGHEST);
    }

    static void promise19RivalIsNoneAheadOfBad() {
        due(some().rival(3, 1, 1, 0), NONE_FAR);
        due(some().rival(0, -1, 0, 2), NONE_FAR);
        due(full().rival(0, 127, 0, -1), NONE_FAR);
    }

    static void promise19RivalOfSeveralIsTheLeast() {
        rival(unlike(1, 6), 42, 21, 120 - 90, 1);
        rival(unlike(0, 6), 56, 7, 0, 3);
    }

    static void promise19RivalPassesBy() {
        rival(alike(1, 4), 7, 8, 20 + 30, 1);
        rival(alike(0, 4), 7, 8, 30 - 40, 0);
        rival(alike(1, 4), 8, 7, 40 - 30, 3);
        rival(alike(0, 4), 8, 7, -30 - 20, 3);
    }

    static void promise19RivalGoesOnWithEntriesBeyond24() {
        OtherwiseCourt x = alike(1, 6);
        enterTimes(x, 23, 0);
        enter(x, 1);
        rival(x, 7, 56, -150, 0);
    }

    static void promise19RivalOfNearBehindTheBook() {
        OtherwiseCourt x = before(NEAR, 1, 3, 15);
        enter(x, 3);
        rival(x, 1, 2, 0, 0);
        rival(x, 2, 1, -10, 1);
    }

    static void promise19RivalChangesNothing() {
        changesNothing(Sentences::some, x -> x.rival(0, 1, 6, 0));
        changesNothing(Sentences::full, x -> x.rival(2, 21, 42, 1));
        changesNothing(Sentences::some, BAD_FAR, x -> x.rival(0, 1, 1, 0));
        changesNothing(Sentences::some, NONE_FAR, x -> x.rival(0, 1, 2, 2));
    }

    // ---- 20 again

    static void promise20Again0Times() {
        due(alike(1, 1).again(0, 0, 0), 0);
    }

    static void promise20Again1Time() {
        due(alike(1, 1).again(0, 0, 1), 1);
        due(alike(0, 1).again(0, 0, 1), 0);
    }

    static void promise20Again60Times() {
        due(alike(1, 1).again(0, 0, 60), 30);
        due(alike(1, 1).again(0, 0, 59), 30);
        due(alike(0, 1).again(0, 0, 59), 29);
        due(unlike(1, 1).again(0, 0, 60), 60);
        due(unlike(0, 1).again(0, 0, 60), 0);
    }

    static void promise20AgainBelow0OrAbove60IsBad() {
        dueWithEach(n -> alike(1, 1).again(0, 0, n), BAD, -1, 61, LOWEST, HIGHEST);
    }

    static void promise20AgainOfNoSuchJudge() {
        dueWithEach(j -> some().again(j, 0, 1), NONE, -1, 3, 4, LOWEST, HIGHEST);
    }

    static void promise20AgainOfNoSuchSuit() {
        dueWithEach(s -> some().again(0, s, 1), NONE, -1, 3, 8, LOWEST, HIGHEST);
    }

    static void promise20AgainIsNoneAheadOfBad() {
        due(some().again(3, 0, 61), NONE);
        due(some().again(0, 3, -1), NONE);
    }

    static void promise20AgainGoesOnWithEntriesBeyond24() {
        OtherwiseCourt x = before(MOST, 0, 3);
        enterTimes(x, 24, 1);
        due(x.again(0, 0, 25), 0);
        due(x.again(0, 0, 26), 1);
        due(x.again(0, 0, 60), 18);
        OtherwiseCourt y = alike(0, 1);
        enterTimes(y, 24, 1);
        due(y.again(0, 0, 60), 30);
    }

    static void promise20AgainChangesNothing() {
        changesNothing(Sentences::some, x -> x.again(0, 0, 60));
        changesNothing(Sentences::full, x -> x.again(2, 7, 60));
        changesNothing(Sentences::some, BAD, x -> x.again(0, 0, 61));
        changesNothing(Sentences::some, NONE, x -> x.again(0, 3, 1));
    }

    // ---- 21 swing

    static void promise21SwingBehind1() {
        due(alike(1, 1).swing(0, 0), 1);
        due(alike(0, 1).swing(0, 0), 1);
    }

    static void promise21SwingNever() {
        due(unlike(1, 1).swing(0, 0), NOTHING);
        due(unlike(0, 1).swing(0, 0), NOTHING);
        OtherwiseCourt x = before(JUDGE, 1, 3);
        enter(x, 1);
        due(x.swing(0, 0), NOTHING);
    }

    /** The longest that any book can bring about. */
    static void promise21SwingGoesOnWithEntriesBeyond24() {
        OtherwiseCourt x = before(MOST, 0, 3);
        enterTimes(x, 24, 1);
        due(x.swing(0, 0), 25);
        x.enter(-1, true);
        enterTimes(x, 24, 0);
        due(x.swing(0, 0), 25);
    }

    static void promise21SwingWithAsManyIsAsJudge() {
        OtherwiseCourt x = before(MOST, 0, 3);
        enter(x, 0);
        enterTimes(x, 4, 1);
        due(x.swing(0, 0), 3);
    }

    static void promise21SwingOfNoSuchJudge() {
        dueWithEach(j -> some().swing(j, 0), NONE, -1, 3, 4, LOWEST, HIGHEST);
    }

    static void promise21SwingOfNoSuchSuit() {
        dueWithEach(s -> some().swing(0, s), NONE, -1, 3, 8, LOWEST, HIGHEST);
    }

    static void promise21SwingChangesNothing() {
        changesNothing(Sentences::some, x -> x.swing(0, 0));
        changesNothing(Sentences::full, x -> x.swing(2, 7));
        changesNothing(Sentences::some, NONE, x -> x.swing(3, 0));
    }

    // ---- 22 unlawful

    /** A book of 24 that a LAST one of odd v holds for lawful. */
    private static OtherwiseCourt lawful() {
        OtherwiseCourt x = before(LAST, 1, 3, 12);
        for (int k = 0; k < 24; k++) {
            enter(x, 1 - k % 2);
        }
        return x;
    }

    /** The same but for the decision of this entry, and of none of the later ones. */
    private static OtherwiseCourt lawfulBut(int... others) {
        OtherwiseCourt x = before(LAST, 1, 3, 12);
        for (int k = 0; k < 24; k++) {
            boolean turned = false;
            for (int other : others) {
                turned |= other == k;
            }
            x.enter(0, turned ? k % 2 == 1 : k % 2 == 0);
        }
        return x;
    }

    static void promise22UnlawfulInAnEmptyBook() {
        due(alike(1, 1).unlawful(0), NOTHING);
        due(alike(0, 0).unlawful(0), NOTHING);
    }

    static void promise22UnlawfulInALawfulBook() {
        due(lawful().unlawful(0), NOTHING);
    }

    static void promise22UnlawfulIsTheFirstEntry() {
        due(lawfulBut(0).unlawful(0), 0);
    }

    static void promise22UnlawfulIsTheLastOf24() {
        due(lawfulBut(23).unlawful(0), 23);
    }

    static void promise22UnlawfulIsTheFirstOfSeveral() {
        due(lawfulBut(7, 9, 22).unlawful(0), 7);
    }

    static void promise22UnlawfulIsByThoseAheadOfItAlone() {
        OtherwiseCourt x = before(NEAR, 0, 7, 3);
        enter(x, 2, 1, 0);
        due(x.unlawful(0), NOTHING);
    }

    static void promise22UnlawfulOfNoSuchJudge() {
        dueWithEach(j -> some().unlawful(j), NONE, -1, 3, 4, LOWEST, HIGHEST);
        due(nothing().unlawful(0), NONE);
    }

    static void promise22UnlawfulChangesNothing() {
        changesNothing(Sentences::some, x -> x.unlawful(0));
        changesNothing(Sentences::full, x -> x.unlawful(3));
        changesNothing(Sentences::some, NONE, x -> x.unlawful(3));
    }

    // ---- 23 wrong

    static void promise23WrongInAnEmptyBook() {
        due(alike(1, 1).wrong(0), 0);
    }

    static void promise23WrongInALawfulBook() {
        due(lawful().wrong(0), 0);
    }

    static void promise23WrongIsTheFirstEntry() {
        due(lawfulBut(0).wrong(0), 1);
        OtherwiseCourt x = alike(1, 1);
        enter(x, 0);
        due(x.wrong(0), 1);
    }

    static void promise23WrongIsTheLastOf24() {
        due(lawfulBut(23).wrong(0), 1 << 23);
    }

    static void promise23WrongIsOneInTheMidst() {
        for (int k = 0; k < 24; k++) {
            due(lawfulBut(k).wrong(0), 1 << k);
        }
    }

    static void promise23WrongIsThatOneAlone() {
        due(lawfulBut(0, 23).wrong(0), 0);
        due(lawfulBut(11, 12).wrong(0), 0);
    }

    static void promise23WrongOfNoSuchJudge() {
        dueWithEach(j -> some().wrong(j), NONE, -1, 3, 4, LOWEST, HIGHEST);
        due(nothing().wrong(0), NONE);
    }

    static void promise23WrongChangesNothing() {
        changesNothing(Sentences::some, x -> x.wrong(0));
        changesNothing(Sentences::full, x -> x.wrong(3));
        changesNothing(() -> lawfulBut(5), 32, x -> x.wrong(0));
        changesNothing(Sentences::some, NONE, x -> x.wrong(3));
    }

    // ---- 24 bars

    private static void bars(OtherwiseCourt x, int many, int least, int greatest) {
        due(x.bars(0, 0), many);
        due(x.bars(0, 1), least);
        due(x.bars(0, 2), greatest);
    }

    static void promise24BarsAreAllIn0To40() {
        bars(alike(1, 1), 41, 0, 40);
        OtherwiseCourt x = alike(1, 1);
        enter(x, 1);
        bars(x, 41, 0, 40);
    }

    static void promise24BarsAreNone() {
        OtherwiseCourt x = alike(1, 1);
        enter(x, 0);
        bars(x, 0, NOTHING, NOTHING);
    }

    static void promise24BarsAre0Alone() {
        OtherwiseCourt x = unlike(1, 1);
        enter(x, 1, 0);
        bars(x, 1, 0, 0);
    }

    static void promise24BarsAre40Alone() {
        OtherwiseCourt x = before(LAST, 1, 1);
        court(x, "weigh 38 p=0");
        enter(x, 1, 1);
        bars(x, 1, 40, 40);
    }

    static void promise24BarsAreNot41() {
        OtherwiseCourt x = before(LAST, 1, 1);
        court(x, "weigh 39 p=0;bar 41");
        enter(x, 1, 1);
        bars(x, 0, NOTHING, NOTHING);
        due(x.unlawful(0), NOTHING);
    }

    static void promise24BarsUpTo40() {
        OtherwiseCourt x = before(LAST, 1, 1);
        court(x, "weigh 99 p=0");
        enter(x, 1, 0);
        bars(x, 41, 0, 40);
        court(x, "weigh 38 p=0");
        bars(x, 40, 0, 39);
    }

    static void promise24BarsAreNotBelow0() {
        OtherwiseCourt x = before(LAST, 1, 1, 2);
        court(x, "clash 1 p<2");
        enter(x, 1, 2);
        bars(x, 0, NOTHING, NOTHING);
    }

    /** 0, 1 and 4: with 2 and 3 the last entry is like the first alone. */
    static void promise24BarsWithAGapAreCounted() {
        OtherwiseCourt x = before(LAST, 1, 127, 15, 49);
        enter(x, 1, 2, 5);
        bars(x, 3, 0, 4);
        court(x, "bar 2");
        due(x.unlawful(0), 2);
    }

    static void promise24BarsAreInPlaceOfBar() {
        OtherwiseCourt x = before(LAST, 1, 3);
        court(x, "bar 9");
        enter(x, 1, 0);
        due(x.unlawful(0), 1);
        bars(x, 3, 0, 2);
        due(x.told(1), 9);
    }

    static void promise24BarsOfStrictHaveVBesides() {
        OtherwiseCourt x = before(STRICT, 1, 15);
        enter(x, 1, 0);
        bars(x, 4, 0, 3);
        OtherwiseCourt y = before(STRICT, 9, 1);
        court(y, "weigh 48 p=0");
        enter(y, 1, 0);
        bars(y, 41, 0, 40);
        court(y, "weigh 47 p=0");
        bars(y, 40, 0, 39);
    }

    static void promise24BarsOfAFullBook() {
        bars(lawful(), 3, 0, 2);
    }

    static void promise24BarsOfNoSuchJudge() {
        dueWithEach(j -> some().bars(j, 0), NONE, -1, 3, 4, LOWEST, HIGHEST);
        due(nothing().bars(0, 0), NONE);
    }

    static void promise24BarsOfNoSuchWhat() {
        dueWithEach(what -> some().bars(0, what), NONE, -1, 3, LOWEST, HIGHEST);
    }

    static void promise24BarsChangeNothing() {
        changesNothing(Sentences::some, x -> x.bars(0, 0));
        changesNothing(Sentences::full, x -> x.bars(3, 2));
        changesNothing(Sentences::some, NONE, x -> x.bars(0, 3));
    }

    // ---- 16 to 24, asked one behind the other

    private static void asked(Setting setting) {
        answersTheSameBehindEach(setting,
            x -> x.score(0, 0, 1), x -> x.decides(0, 0, 1), x -> x.decides(1, 1, 0), x -> x.decides(2, 2, 1),
            x -> x.best(0, 7, -1), x -> x.best(0, 7, 0), x -> x.best(2, 6, 1), x -> x.best(1, 0, 0),
            x -> x.shams(0, 0, -1), x -> x.shams(0, 1, 0), x -> x.shams(1, 2, 0), x -> x.shams(2, 2, 1),
            x -> x.point(0, 0, 0), x -> x.point(2, 2, 1), x -> x.rival(0, 1, 6, 0), x -> x.rival(2, 6, 1, 1),
            x -> x.rival(1, 0, 7, 1), x -> x.again(0, 0, 60), x -> x.again(2, 1, 7), x -> x.swing(1, 1),
            x -> x.unlawful(0), x -> x.unlawful(2), x -> x.wrong(0), x -> x.wrong(1), x -> x.bars(0, 0),
            x -> x.bars(2, 2), x -> x.odds(0, 1, 0), x -> x.odds(2, 0, 1), x -> x.expects(0, 0),
            x -> x.expects(2, 1), x -> x.at(0, 10), x -> x.told(1));
    }

    static void promise16BestAndAllOthersAskedBehindOneAnother() {
        asked(Sentences::some);
        asked(Sentences::full);
    }

    static void promise16BestAndAllOthersAskedBehindOneAnotherOfNear() {
        asked(() -> {
            OtherwiseCourt x = suits(255, 15, 51);
            for (int kind : new int[] {JUDGE, NEAR, STRICT}) {
                x.judge(kind, 1);
            }
            court(x, "bar 0;clash 1 p<4;weigh 2 p=5");
            enter(x, 1, 2, 5, 3, 0);
            queue(x, 2, 1, 0);
            return x;
        });
    }

    public static void main(String[] args) throws IllegalAccessException {
        runAll(BoundsOfBringingTest.class, 16, 24);
    }
}
