/** Promises 11 to 15, decided: a test for each sentence that names a boundary case. */
public final class BoundsOfDecidingTest extends Sentences {
    /** One judge of this kind over suits with these points. */
    private static OtherwiseCourt before(int kind, int v, int... points) {
        OtherwiseCourt x = suits(points);
        x.judge(kind, v);
        return x;
    }

    private static void decides(OtherwiseCourt x, int suit, int is, int by, int likes) {
        due(x.decides(0, suit, 0), is);
        due(x.decides(0, suit, 1), by);
        due(x.decides(0, suit, 2), likes);
    }

    // ---- 11 score

    static void promise11ScoreOfNoPoints() {
        due(before(JUDGE, 0, 0, 0, 255).score(0, 0, 1), 0);
        due(before(JUDGE, 0, 0, 0, 255).score(0, 0, 2), 0);
    }

    static void promise11ScoreOfAllPoints() {
        due(before(JUDGE, 0, 255, 255).score(0, 0, 1), 8);
    }

    static void promise11ScoreOfASuitAndItself() {
        OtherwiseCourt x = before(JUDGE, 0, 129);
        court(x, "weigh 4 p=7;clash 9 p<8");
        due(x.score(0, 0, 0), 6);
    }

    static void promise11ScoreOfNoPointInBoth() {
        OtherwiseCourt x = before(JUDGE, 0, 15, 240);
        due(x.score(0, 0, 1), 0);
        court(x, "clash 3 p=0|p=7");
        due(x.score(0, 0, 1), -6);
    }

    static void promise11ScoreClashesOfPointsThatJustOneHas() {
        OtherwiseCourt x = before(JUDGE, 0, 1, 129, 128, 0);
        court(x, "clash 3 p=7;clash 5 p=0;weigh 9 p=0");
        due(x.score(0, 0, 1), 10 - 3);
        due(x.score(0, 1, 0), 10 - 3);
        due(x.score(0, 0, 2), -8);
        due(x.score(0, 3, 3), 0);
        due(x.score(0, 1, 3), -8);
    }

    static void promise11ScoreAtItsLeastAndItsGreatest() {
        OtherwiseCourt x = before(JUDGE, 0, 255, 0);
        court(x, "clash 99 p<9;".repeat(6) + "clash 99 p<9");
        due(x.score(0, 0, 1), -5544);
        court(x, "weigh 99 p<9;".repeat(6) + "weigh 99 p<9");
        due(x.score(0, 0, 0), 5552);
    }

    static void promise11ScoreIsForTheJudge() {
        OtherwiseCourt x = suits(1);
        x.judge(STRICT, 9);
        x.judge(TOLD, 0);
        court(x, "weigh 10 k=5;weigh 20 v=0");
        due(x.score(0, 0, 0), 11);
        due(x.score(1, 0, 0), 21);
    }

    static void promise11ScoreOfTheLastSuitsAndJudge() {
        OtherwiseCourt x = full();
        due(x.score(3, 7, 7), 6);
        due(x.score(3, 7, 6), 2);
    }

    static void promise11ScoreOfNoSuchJudge() {
        dueWithEach(j -> some().score(j, 0, 0), NONE_FAR, -1, 3, 4, LOWEST, HIGHEST);
        dueWithEach(j -> full().score(j, 0, 0), NONE_FAR, -1, 4, LOWEST, HIGHEST);
    }

    static void promise11ScoreOfNoSuchSuit() {
        dueWithEach(s -> some().score(0, s, 0), NONE_FAR, -1, 3, 8, LOWEST, HIGHEST);
        dueWithEach(s -> some().score(0, 0, s), NONE_FAR, -1, 3, 8, LOWEST, HIGHEST);
        dueWithEach(s -> full().score(0, s, 0), NONE_FAR, -1, 8);
        dueWithEach(s -> full().score(0, 0, s), NONE_FAR, -1, 8);
    }

    static void promise11ScoreChangesNothing() {
        changesNothing(Sentences::some, 4, x -> x.score(0, 0, 1));
        changesNothing(Sentences::some, NONE_FAR, x -> x.score(3, 0, 1));
    }

    // ---- 12 decides: what is like

    static void promise12DecidesByAnEntryWhoseScoreIsTheBar() {
        OtherwiseCourt x = before(JUDGE, 0, 3);
        enter(x, 0);
        decides(x, 0, 1, 0, 1);
    }

    static void promise12DecidesNotByAnEntryWhoseScoreIs1Less() {
        OtherwiseCourt x = before(JUDGE, 0, 1);
        enter(x, 0);
        decides(x, 0, 0, NOTHING, 0);
    }

    static void promise12DecidesByABarOf0() {
        OtherwiseCourt x = before(JUDGE, 0, 0, 1);
        court(x, "bar 0;clash 1 p=0");
        enter(x, 0);
        decides(x, 0, 1, 0, 1);
        decides(x, 1, 0, NOTHING, 0);
    }

    static void promise12DecidesByABarOf99() {
        OtherwiseCourt x = before(JUDGE, 0, 1, 3);
        court(x, "bar 99;weigh 97 p=0;weigh 1 p=0;weigh 99 p=1");
        enter(x, 0);
        decides(x, 0, 1, 0, 1);
        court(x, "bar 99;weigh 97 p=0;weigh 99 p=1");
        decides(x, 0, 0, NOTHING, 0);
        decides(x, 1, 0, NOTHING, 0);
    }

    static void promise12DecidesStrictByBarAndV() {
        OtherwiseCourt x = before(STRICT, 2, 15, 7);
        enter(x, 0);
        decides(x, 0, 1, 0, 1);
        decides(x, 1, 0, NOTHING, 0);
    }

    static void promise12DecidesStrictByBarAndV9() {
        OtherwiseCourt x = before(STRICT, 9, 1);
        court(x, "bar 20;weigh 28 p=0");
        enter(x, 1);
        decides(x, 0, 0, 0, 1);
        court(x, "bar 20;weigh 27 p=0");
        decides(x, 0, 1, NOTHING, 0);
    }

    static void promise12DecidesOthersByBarWithoutV() {
        for (int kind = 0; kind < 7; kind++) {
            OtherwiseCourt x = before(kind, 9, 3);
            enter(x, 1);
            due(x.decides(0, 0, 2), kind == STRICT ? 0 : 1);
        }
    }

    static void promise12DecidesByNoCourtsWeights() {
        OtherwiseCourt x = before(NEAR, 0, 255, 3, 1);
        enter(x, 0, 2, 4);
        due(x.decides(0, 0, 2), 2);
        due(x.decides(0, 0, 1), 0);
    }

    // ---- 12 decides: none is like

    static void promise12DecidesByVModulo2IfThereIsNoEntry() {
        for (int kind = 0; kind < 7; kind++) {
            for (int v = 0; v <= 9; v++) {
                decides(before(kind, v, 255), 0, v % 2, NOTHING, 0);
            }
        }
    }

    static void promise12DecidesByVModulo2IfNoneIsLike() {
        for (int kind = 0; kind < 7; kind++) {
            for (int v = 0; v <= 9; v++) {
                OtherwiseCourt x = before(kind, v, 255, 0);
                enter(x, 3, 2, 3);
                decides(x, 0, v % 2, NOTHING, 0);
            }
        }
    }

    // ---- 12 decides: the kinds

    static void promise12DecidesJudgeByTheEarliest() {
        OtherwiseCourt x = before(JUDGE, 1, 3, 12);
        enter(x, 2, 1, 0, 0);
        decides(x, 0, 0, 1, 3);
    }

    static void promise12DecidesLastByTheLatest() {
        OtherwiseCourt x = before(LAST, 1, 3, 12);
        enter(x, 1, 1, 0, 3);
        decides(x, 0, 1, 2, 3);
    }

    static void promise12DecidesNearByTheMostScore() {
        OtherwiseCourt x = before(NEAR, 1, 15, 7, 3);
        enter(x, 4, 2, 5);
        decides(x, 0, 1, 1, 3);
    }

    static void promise12DecidesNearOfSeveralByTheLatest() {
        OtherwiseCourt x = before(NEAR, 1, 7, 3);
        enter(x, 0, 1, 3);
        decides(x, 0, 0, 1, 3);
    }

    static void promise12DecidesNearByAScoreOf0() {
        OtherwiseCourt x = before(NEAR, 1, 0, 1);
        court(x, "bar 0");
        enter(x, 3, 1, 2);
        decides(x, 0, 1, 2, 3);
    }

    static void promise12DecidesStrictByTheMostScore() {
        OtherwiseCourt x = before(STRICT, 1, 31, 15, 7);
        enter(x, 5, 2, 5);
        decides(x, 0, 1, 1, 3);
    }

    static void promise12DecidesStrictOfSeveralByTheLatest() {
        OtherwiseCourt x = before(STRICT, 1, 31, 15, 7);
        enter(x, 3, 5, 2, 5);
        decides(x, 0, 1, 2, 4);
    }

    static void promise12DecidesMostOtherwiseThanMore() {
        OtherwiseCourt x = before(MOST, 0, 3);
        enter(x, 1, 0, 0);
        decides(x, 0, 1, NOTHING, 3);
        enter(x, 1, 1);
        decides(x, 0, 0, NOTHING, 5);
    }

    static void promise12DecidesMostOfOne() {
        OtherwiseCourt x = before(MOST, 0, 3);
        enter(x, 0);
        decides(x, 0, 1, NOTHING, 1);
        x.enter(-1, true);
        enter(x, 1);
        decides(x, 0, 0, NOTHING, 1);
    }

    static void promise12DecidesMostOfAsManyAsJudge() {
        OtherwiseCourt x = before(MOST, 0, 3, 12);
        enter(x, 2, 1, 0);
        decides(x, 0, 0, NOTHING, 2);
        x.enter(-1, true);
        enter(x, 3, 0, 1);
        decides(x, 0, 1, NOTHING, 2);
    }

    static void promise12DecidesOrderlyForItIfVIsAbove4() {
        for (int v = 0; v <= 9; v++) {
            OtherwiseCourt x = before(ORDERLY, v, 3);
            enter(x, 0, 1);
            decides(x, 0, v > 4 ? 1 : 0, NOTHING, 2);
            enter(x, 1, 0);
            decides(x, 0, v > 4 ? 1 : 0, NOTHING, 4);
        }
    }

    static void promise12DecidesOrderlyElseAsLast() {
        for (int v = 0; v <= 9; v++) {
            OtherwiseCourt x = before(ORDERLY, v, 3, 12);
            enter(x, 0, 0, 3);
            decides(x, 0, 1, 1, 2);
            decides(x, 1, 0, 2, 1);
        }
    }

    static void promise12DecidesToldAsItsRowTells() {
        int[] points = {0, 1, 3, 7, 15, 31, 63, 127};
        for (int many = 0; many < 8; many++) {
            OtherwiseCourt x = before(TOLD, 0, points);
            due(x.decides(0, many, 0), 0);
            x.row(0, many % 4, 1);
            due(x.decides(0, many, 0), 1);
            for (int other = 0; other < 8; other++) {
                due(x.decides(0, other, 0), other % 4 == many % 4 ? 1 : 0);
            }
        }
    }

    static void promise12DecidesToldOfAll8PointsAsOfNone() {
        OtherwiseCourt x = before(TOLD, 0, 255);
        x.row(0, 0, 1);
        decides(x, 0, 1, NOTHING, 0);
    }

    static void promise12DecidesToldAgainstItBy2() {
        OtherwiseCourt x = before(TOLD, 1, 1);
        due(x.decides(0, 0, 0), 1);
        x.row(0, 1, 2);
        decides(x, 0, 0, NOTHING, 0);
    }

    static void promise12DecidesToldByItsRowAheadOfTheBook() {
        OtherwiseCourt x = before(TOLD, 0, 3);
        enter(x, 0, 0);
        x.row(0, 2, 2);
        decides(x, 0, 0, NOTHING, 2);
        x.row(0, 2, 1);
        enter(x, 1, 1, 1);
        decides(x, 0, 1, NOTHING, 5);
    }

    static void promise12DecidesToldAsMostBy0() {
        OtherwiseCourt x = before(TOLD, 0, 3);
        enter(x, 1, 0, 0);
        decides(x, 0, 1, NOTHING, 3);
        enter(x, 1);
        decides(x, 0, 0, NOTHING, 4);
    }

    // ---- 12 decides: by, how many, refusals

    static void promise12DecidesByTheFirstAndTheLastOf24() {
        OtherwiseCourt x = before(JUDGE, 0, 3, 12);
        x.judge(LAST, 0);
        x.judge(NEAR, 0);
        enter(x, 0);
        enterTimes(x, 22, 2);
        enter(x, 0);
        due(x.decides(0, 0, 1), 0);
        due(x.decides(1, 0, 1), 23);
        due(x.decides(2, 0, 1), 23);
    }

    static void promise12DecidesEachSuitAnew() {
        for (int kind = 0; kind < 7; kind++) {
            OtherwiseCourt x = before(kind, 0, 3, 12, 48);
            enter(x, 1, 2);
            for (int times = 0; times < 2; times++) {
                decides(x, 0, 0, kind == STRICT || kind < MOST || kind == ORDERLY ? 0 : NOTHING, 1);
                decides(x, 1, 1, kind == STRICT || kind < MOST || kind == ORDERLY ? 1 : NOTHING, 1);
                decides(x, 2, 0, NOTHING, 0);
            }
        }
    }

    static void promise12DecidesToldByTheRowOfEachJudge() {
        OtherwiseCourt x = suits(3, 1);
        for (int j = 0; j < 4; j++) {
            x.judge(TOLD, 0);
        }
        for (int j = 3; j >= 0; j--) {
            x.row(j, 2, 1);
            x.row(j, 1, 2);
            for (int other = 0; other < 4; other++) {
                due(x.decides(other, 0, 0), other >= j ? 1 : 0);
                due(x.decides(other, 1, 0), 0);
            }
        }
    }

    static void promise12DecidesHowMany0To24() {
        OtherwiseCourt x = before(MOST, 0, 3, 12);
        for (int k = 0; k < 24; k++) {
            due(x.decides(0, 0, 2), k);
            due(x.decides(0, 1, 2), 0);
            enter(x, 1);
        }
        due(x.decides(0, 0, 2), 24);
    }

    static void promise12DecidesNoSuchJudge() {
        dueWithEach(j -> some().decides(j, 0, 0), NONE, -1, 3, 4, LOWEST, HIGHEST);
        dueWithEach(j -> full().decides(j, 0, 0), NONE, -1, 4, LOWEST, HIGHEST);
        due(nothing().decides(0, 0, 0), NONE);
    }

    static void promise12DecidesNoSuchSuit() {
        dueWithEach(s -> some().decides(0, s, 0), NONE, -1, 3, 8, LOWEST, HIGHEST);
        dueWithEach(s -> full().decides(0, s, 0), NONE, -1, 8, LOWEST, HIGHEST);
    }

    static void promise12DecidesNoSuchWhat() {
        dueWithEach(what -> some().decides(0, 0, what), NONE, -1, 3, LOWEST, HIGHEST);
    }

    static void promise12DecidesChangesNothing() {
        changesNothing(Sentences::some, 0, x -> x.decides(1, 0, 0));
        changesNothing(Sentences::full, x -> x.decides(1, 7, 2));
        changesNothing(Sentences::some, NONE, x -> x.decides(3, 0, 0));
    }

    // ---- 13 hear

    static void promise13HearComesToTheBookAsItIsDecided() {
        OtherwiseCourt x = before(LAST, 1, 3, 12);
        due(x.hear(0, 1), 1);
        due(x.entry(0), 3);
        due(x.hear(0, 1), 0);
        due(x.entry(1), 2);
        due(x.hear(0, 0), 1);
        due(x.entry(2), 1);
        due(x.count(3), 3);
    }

    static void promise13HearOfTheFirstAndTheLastSuitAndJudge() {
        OtherwiseCourt x = full();
        x.enter(-1, true);
        due(x.hear(0, 0), 1);
        due(x.hear(3, 7), 0);
        due(x.entry(1), 14);
    }

    static void promise13HearOfTheFirstIsByVModulo2() {
        for (int v = 0; v <= 9; v++) {
            due(before(MOST, v, 3).hear(0, 0), v % 2);
        }
    }

    static void promise13HearNoSuchJudge() {
        dueWithEach(j -> some().hear(j, 0), NONE, -1, 3, 4, LOWEST, HIGHEST);
    }

    static void promise13HearNoSuchSuit() {
        dueWithEach(s -> some().hear(0, s), NONE, -1, 3, 8, LOWEST, HIGHEST);
    }

    static void promise13HearOfThe24thFits() {
        OtherwiseCourt x = before(LAST, 1, 3);
        enterTimes(x, 23, 0);
        due(x.hear(0, 0), 1);
        due(x.count(3), 24);
        due(x.entry(23), 1);
    }

    static void promise13HearOfThe25thIsFull() {
        OtherwiseCourt x = before(LAST, 1, 3);
        enterTimes(x, 24, 0);
        due(x.hear(0, 0), FULL);
        due(x.count(3), 24);
        due(x.entry(24), NONE);
    }

    static void promise13HearIsNoneAheadOfFull() {
        due(full().hear(4, 0), NONE);
        due(full().hear(0, 8), NONE);
        due(full().hear(-1, -1), NONE);
    }

    static void promise13HearRefusedChangesNothing() {
        changesNothing(Sentences::some, NONE, x -> x.hear(3, 0));
        changesNothing(Sentences::some, NONE, x -> x.hear(0, 3));
        changesNothing(Sentences::full, FULL, x -> x.hear(0, 0));
    }

    // ---- 14 enter

    static void promise14EnterTellsHowManyThereAre() {
        OtherwiseCourt x = suits(3, 12);
        for (int k = 1; k <= 24; k++) {
            due(x.enter(k % 2, k % 3 == 0), k);
            due(x.count(3), k);
        }
    }

    static void promise14EnterComesBehindTheOthers() {
        OtherwiseCourt x = suits(3, 12);
        enter(x, 1, 2);
        due(x.enter(1, true), 3);
        due(x.entry(0), 1);
        due(x.entry(1), 2);
        due(x.entry(2), 3);
    }

    static void promise14EnterMinus1IsNoneThen() {
        OtherwiseCourt x = suits(3, 12);
        enter(x, 1, 2);
        due(x.enter(-1, true), 0);
        due(x.count(3), 0);
        due(x.entry(0), NONE);
    }

    static void promise14EnterMinus1WhateverTheOtherIs() {
        OtherwiseCourt x = suits(3, 12);
        enter(x, 1, 2);
        due(x.enter(-1, false), 0);
        due(x.count(3), 0);
    }

    static void promise14EnterMinus1OfAnEmptyBook() {
        due(nothing().enter(-1, true), 0);
        due(nothing().enter(-1, false), 0);
    }

    static void promise14EnterMinus1OfAFullBook() {
        OtherwiseCourt x = full();
        due(x.enter(-1, true), 0);
        due(x.enter(7, true), 1);
        due(x.entry(0), 15);
    }

    static void promise14EnterMinus1ChangesNothingElse() {
        changesNothing(() -> {
            OtherwiseCourt x = full();
            x.enter(-1, true);
            return x;
        }, 0, x -> x.enter(-1, true));
        OtherwiseCourt x = full();
        x.enter(-1, true);
        int[] many = {8, 4, 5, 0, 8, 100, 4};
        for (int what = 0; what <= 6; what++) {
            due(x.count(what), many[what]);
        }
    }

    static void promise14EnterOfNoSuchSuit() {
        dueWithEach(s -> some().enter(s, true), NONE, -2, 3, 8, LOWEST, HIGHEST);
        due(nothing().enter(0, true), NONE);
    }

    static void promise14EnterOfThe25thIsFull() {
        due(full().enter(0, true), FULL);
        due(full().enter(7, false), FULL);
    }

    static void promise14EnterIsNoneAheadOfFull() {
        due(full().enter(8, true), NONE);
        due(full().enter(-2, true), NONE);
    }

    static void promise14EnterRefusedChangesNothing() {
        changesNothing(Sentences::some, NONE, x -> x.enter(3, true));
        changesNothing(Sentences::some, NONE, x -> x.enter(-2, true));
        changesNothing(Sentences::full, FULL, x -> x.enter(0, true));
    }

    // ---- 15 entry

    static void promise15EntryOfTheFirstAndTheLastSuit() {
        OtherwiseCourt x = full();
        x.enter(-1, true);
        enter(x, 0, 1, 14, 15);
        due(x.entry(0), 0);
        due(x.entry(1), 1);
        due(x.entry(2), 14);
        due(x.entry(3), 15);
    }

    static void promise15EntryOfTheFirstAndTheLastOf24() {
        OtherwiseCourt x = suits(3, 12);
        enter(x, 3);
        enterTimes(x, 22, 0);
        enter(x, 2);
        due(x.entry(0), 3);
        due(x.entry(1), 0);
        due(x.entry(23), 2);
    }

    static void promise15EntryOfNoSuchK() {
        dueWithEach(k -> some().entry(k), NONE, -1, 4, 23, 24, LOWEST, HIGHEST);
        dueWithEach(k -> full().entry(k), NONE, -1, 24, LOWEST, HIGHEST);
    }

    static void promise15EntryOfAnEmptyBook() {
        due(suits(3).entry(0), NONE);
    }

    static void promise15EntryChangesNothing() {
        changesNothing(Sentences::some, 5, x -> x.entry(3));
        changesNothing(Sentences::some, NONE, x -> x.entry(4));
    }

    public static void main(String[] args) throws IllegalAccessException {
        runAll(BoundsOfDecidingTest.class, 11, 15);
    }
}
