/** Promises 1 to 10, courts, suits, judges: a test for each sentence that names a boundary case. */
public final class BoundsOfCourtsTest extends Sentences {
    private static final String TEN_CLAUSES = "bar 1;".repeat(9) + "bar 3";

    // ---- 1 A new object

    static void promise1NewHasNoSuits() {
        OtherwiseCourt x = nothing();
        due(x.count(0), 0);
        due(x.of(0, 0), NONE);
    }

    static void promise1NewHasNoJudges() {
        OtherwiseCourt x = nothing();
        due(x.count(1), 0);
        due(x.at(0, 0), NONE);
    }

    static void promise1NewHasNoCourt() {
        due(nothing().count(2), 0);
    }

    static void promise1NewHasNoEntry() {
        OtherwiseCourt x = nothing();
        due(x.count(3), 0);
        due(x.entry(0), NONE);
    }

    static void promise1NewHasNoQueue() {
        due(nothing().count(4), 0);
    }

    static void promise1NewHasAnEmptyTape() {
        due(nothing().count(5), 0);
    }

    static void promise1NewHasNoTrace() {
        OtherwiseCourt x = nothing();
        due(x.count(6), 0);
        due(x.trace(0), NONE);
    }

    static void promise1NewHasNoImage() {
        due(nothing().undo(), STATE);
    }

    static void promise1NewHasDay0() {
        due(nothing().told(0), 0);
    }

    static void promise1NewHasBar2() {
        due(nothing().told(1), 2);
    }

    static void promise1NewSharesNothingWithAnother() {
        full();
        OtherwiseCourt x = nothing();
        for (int what = 0; what <= 6; what++) {
            due(x.count(what), 0);
        }
        due(x.told(0), 0);
        due(x.told(1), 2);
        due(x.undo(), STATE);
        full();
        due(x.count(0), 0);
    }

    // ---- 2 feed

    static void promise2FeedTakesSign0() {
        due(nothing().feed(0), 1);
    }

    static void promise2FeedTakesSign127() {
        due(nothing().feed(127), 1);
    }

    static void promise2FeedTellsHowManyThereAre() {
        OtherwiseCourt x = nothing();
        for (int i = 1; i <= 100; i++) {
            due(x.feed(i), i);
            due(x.count(5), i);
        }
    }

    static void promise2FeedBelow0IsBad() {
        dueWithEach(n -> nothing().feed(n), BAD, -1, -2, LOWEST);
    }

    static void promise2FeedAbove127IsBad() {
        dueWithEach(n -> nothing().feed(n), BAD, 128, 255, 256, HIGHEST);
    }

    static void promise2FeedOfThe100thFits() {
        OtherwiseCourt x = nothing();
        feed(x, longCourt().substring(0, 99));
        due(x.feed('2'), 100);
    }

    static void promise2FeedOfThe101stIsFull() {
        OtherwiseCourt x = nothing();
        feed(x, longCourt());
        due(x.feed('2'), FULL);
        due(x.feed('2'), FULL);
    }

    static void promise2FeedIsBadAheadOfFull() {
        OtherwiseCourt x = nothing();
        feed(x, longCourt());
        due(x.feed(-1), BAD);
        due(x.feed(128), BAD);
    }

    static void promise2FeedRefusedAsFullLeavesTheTape() {
        OtherwiseCourt x = nothing();
        x.judge(JUDGE, 0);
        feed(x, longCourt());
        due(x.feed('9'), FULL);
        due(x.count(5), 100);
        due(x.court(), 0);
        due(x.at(0, 12), 11);
    }

    static void promise2FeedRefusedAsBadLeavesTheTape() {
        OtherwiseCourt x = nothing();
        feed(x, "bar ");
        due(x.feed(128), BAD);
        due(x.feed(-1), BAD);
        feed(x, "7");
        due(x.court(), 0);
        due(x.told(1), 7);
    }

    static void promise2FeedComesBehindTheOnesThere() {
        OtherwiseCourt x = nothing();
        feed(x, "bar 12");
        due(x.court(), 0);
        due(x.told(1), 12);
    }

    static void promise2FeedBeginsAnewBehindACourt() {
        OtherwiseCourt x = nothing();
        court(x, "bar 1");
        due(x.feed('b'), 1);
    }

    static void promise2FeedRefusedChangesNothing() {
        changesNothing(Sentences::nothing, BAD, x -> x.feed(-1));
        changesNothing(Sentences::some, BAD, x -> x.feed(-1));
        changesNothing(Sentences::some, BAD, x -> x.feed(128));
        changesNothing(Sentences::full, BAD, x -> x.feed(128));
        changesNothing(Sentences::full, FULL, x -> x.feed('1'));
    }

    // ---- 3 court: numbers and what holds

    static void promise3CourtsAreNumberedFrom0On() {
        OtherwiseCourt x = nothing();
        for (int n = 0; n < 5; n++) {
            due(court(x, "bar 1"), n);
            due(x.count(2), n + 1);
        }
    }

    static void promise3CourtOfThe6thIsFull() {
        OtherwiseCourt x = fiveCourts();
        due(court(x, "bar 9"), FULL);
        due(x.count(2), 5);
    }

    private static OtherwiseCourt fiveCourts() {
        OtherwiseCourt x = nothing();
        for (int n = 0; n < 5; n++) {
            court(x, "bar " + n);
        }
        return x;
    }

    static void promise3CourtIsFullAheadOfAFault() {
        due(court(fiveCourts(), "bar 9;"), FULL);
        due(court(fiveCourts(), "x"), FULL);
    }

    static void promise3CourtIsFullAheadOfAnEmptyTape() {
        due(fiveCourts().court(), FULL);
    }

    static void promise3CourtThatIsFullLeavesTheTape() {
        OtherwiseCourt x = fiveCourts();
        due(court(x, "bar 9"), FULL);
        due(x.count(5), 5);
        due(court(x, "x"), FULL);
        due(x.count(5), 6);
        due(x.feed('x'), 7);
    }

    static void promise3CourtThatIsFullLeavesTheOneThatHolds() {
        OtherwiseCourt x = fiveCourts();
        court(x, "bar 9");
        due(x.told(1), 4);
    }

    static void promise3CourtRefusedAsFullChangesNothing() {
        changesNothing(Sentences::full, FULL, OtherwiseCourt::court);
    }

    static void promise3CourtEmptiesTheTape() {
        OtherwiseCourt x = nothing();
        court(x, "bar 9");
        due(x.count(5), 0);
    }

    static void promise3CourtEmptiesTheTapeByAFaultToo() {
        OtherwiseCourt x = nothing();
        due(court(x, "bar 9;"), -16);
        due(x.count(5), 0);
        due(court(x, "bar 8"), 0);
        due(x.told(1), 8);
    }

    static void promise3CourtOfAFaultLeavesTheOneThatHeld() {
        OtherwiseCourt x = nothing();
        x.judge(JUDGE, 0);
        court(x, "weigh 4 p=0;clash 6 p=0;bar 9");
        due(court(x, "weigh 5 p=0;clash 7 p=0;bar 8;"), -40);
        due(x.told(1), 9);
        due(x.at(0, 10), 5);
        due(x.at(0, 20), 6);
    }

    static void promise3CourtOfAFaultLeavesThatThereIsNone() {
        OtherwiseCourt x = nothing();
        x.judge(JUDGE, 0);
        due(court(x, "weigh 5 p=0;clash 7 p=0;bar 8;"), -40);
        due(x.told(1), 2);
        due(x.at(0, 10), 1);
        due(x.at(0, 20), 0);
    }

    static void promise3CourtOfAFaultTakesNoNumber() {
        OtherwiseCourt x = nothing();
        court(x, "bar 1");
        court(x, "x");
        due(x.count(2), 1);
        due(court(x, "bar 1"), 1);
    }

    static void promise3CourtThatIsNewestHolds() {
        OtherwiseCourt x = nothing();
        x.judge(JUDGE, 0);
        court(x, "weigh 5 p=0;clash 7 p=0;bar 8");
        court(x, "weigh 9 p=1");
        due(x.at(0, 10), 1);
        due(x.at(0, 11), 10);
        due(x.at(0, 20), 0);
    }

    static void promise3CourtWithoutABarHasBar2() {
        OtherwiseCourt x = nothing();
        court(x, "bar 8");
        court(x, "weigh 9 p=1");
        due(x.told(1), 2);
    }

    static void promise3CourtAnswersMinus10LessTheFault() {
        fault("x", 0);
        due(court(nothing(), "x"), -10);
        due(court(nothing(), "bax"), -12);
    }

    // ---- 3 court: clauses

    static void promise3CourtOfAnEmptyTapeIsAFaultAt0() {
        fault("", 0);
    }

    static void promise3CourtOfATapeThatACourtOrAFaultEmptiedIsAFaultAt0() {
        OtherwiseCourt x = nothing();
        due(court(x, "bar 9"), 0);
        due(x.court(), -10);
        due(x.told(1), 9);
        due(court(x, "bar 8;"), -16);
        due(x.court(), -10);
        due(x.court(), -10);
        due(x.told(1), 9);
        due(x.count(2), 1);
    }

    static void promise3CourtOf1Clause() {
        right("bar 1");
    }

    static void promise3CourtOf10Clauses() {
        OtherwiseCourt x = nothing();
        due(court(x, TEN_CLAUSES), 0);
        due(x.told(1), 3);
    }

    static void promise3CourtOf11ClausesIsAFaultAtTheSignBetween() {
        fault(TEN_CLAUSES + ";bar 1", 59);
        fault(TEN_CLAUSES + ";", 59);
        fault("weigh 0 p=1;" + "bar 1;".repeat(9) + "bar 1", 65);
    }

    static void promise3CourtBeginsWithAClause() {
        fault(";bar 1", 0);
        fault(" bar 1", 0);
    }

    static void promise3CourtEndsWithAClause() {
        fault("bar 1;", 6);
        fault("weigh 1 p=1;", 12);
    }

    static void promise3CourtHasAClauseBehindEachSemicolon() {
        fault("bar 1;;bar 1", 6);
        fault("bar 1; bar 1", 6);
    }

    static void promise3CourtHas1BlankBehindTheWord() {
        fault("weigh1 p=1", 5);
        fault("weigh  1 p=1", 6);
        fault("clash1 p=1", 5);
        fault("clash  1 p=1", 6);
        fault("bar1", 3);
        fault("bar  1", 4);
    }

    static void promise3CourtHas1BlankBehindTheNumber() {
        fault("weigh 1p=1", 7);
        fault("weigh 1  p=1", 8);
        fault("clash 12p=1", 8);
        fault("clash 12  p=1", 9);
    }

    static void promise3CourtHasNoBlankElsewhere() {
        fault("bar 1 ", 5);
        fault("bar 1 ;bar 1", 5);
        fault("weigh 1 p =1", 9);
        fault("weigh 1 p= 1", 10);
        fault("weigh 1 p=1 ", 11);
        fault("weigh 1 p=1 &p=1", 11);
        fault("weigh 1 p=1& p=1", 12);
        fault("weigh 1 p=1 |p=1", 11);
        fault("weigh 1 p=1| p=1", 12);
        fault("weigh 1 ! p=1", 9);
        fault("weigh 1 ( p=1)", 9);
        fault("weigh 1 (p=1 )", 12);
    }

    static void promise3CourtNumbersOf1Digit() {
        for (int n = 0; n <= 9; n++) {
            barIs(n);
        }
    }

    static void promise3CourtNumbersOf2Digits() {
        for (int n = 10; n <= 99; n++) {
            barIs(n);
        }
    }

    private static void barIs(int n) {
        OtherwiseCourt x = nothing();
        due(court(x, "bar " + n), 0);
        due(x.told(1), n);
    }

    static void promise3CourtNumbersOf3DigitsAreAFault() {
        fault("bar 100", 6);
        fault("weigh 123 p=1", 8);
        fault("clash 999 p=1", 8);
        fault("clash 1 p=123", 12);
    }

    static void promise3CourtNumbersOfNoDigitAreAFault() {
        fault("bar ", 4);
        fault("bar ;", 4);
        fault("weigh  p=1", 6);
        fault("weigh p=1", 6);
        fault("weigh 1 p=", 10);
        fault("weigh 1 p=;", 10);
    }

    static void promise3CourtNumbersHaveNo0AheadOfAnother() {
        fault("bar 00", 5);
        fault("bar 01", 5);
        fault("weigh 00 p=1", 7);
        fault("weigh 1 p=00", 11);
        fault("clash 1 v<09", 11);
    }

    static void promise3CourtNumbersAreNotNegative() {
        fault("bar -1", 4);
        fault("weigh 1 p>-1", 10);
    }

    static void promise3CourtOfWeighNeedsAnExpression() {
        fault("weigh 1", 7);
        fault("weigh 1 ", 8);
        fault("weigh 1;bar 1", 7);
        fault("clash 1", 7);
        fault("clash 1 ;", 8);
    }

    static void promise3CourtOfBarTakesNoExpression() {
        fault("bar 1 p=1", 5);
    }

    static void promise3CourtWordsAreWholeAndSmall() {
        for (String word : new String[] {"weigh", "clash", "bar"}) {
            for (int i = 0; i < word.length(); i++) {
                fault(word.substring(0, i), i);
                fault(word.substring(0, i) + " 1", i);
                fault(word.substring(0, i) + (char) (word.charAt(i) - 32), i);
            }
        }
        fault("weight 1 p=1", 5);
        fault("bars 1", 3);
    }

    // ---- 3 court: which sign goes on

    static void promise3CourtFaultAtTheFirstSign() {
        goesOn("", "wcb");
    }

    static void promise3CourtFaultInAWord() {
        goesOn("w", "e");
        goesOn("c", "l");
        goesOn("b", "a");
        goesOn("weig", "h");
        goesOn("clas", "h");
        goesOn("ba", "r");
    }

    static void promise3CourtFaultBehindAWord() {
        goesOn("weigh", " ");
        goesOn("clash", " ");
        goesOn("bar", " ");
        goesOn("weigh ", "0123456789");
        goesOn("clash ", "0123456789");
        goesOn("bar ", "0123456789");
    }

    static void promise3CourtFaultBehindANumber() {
        goesOn("weigh 0", " ");
        goesOn("weigh 1", " 0123456789");
        goesOn("weigh 99", " ");
        goesOn("clash 0", " ");
        goesOn("clash 9", " 0123456789");
        goesOn("clash 10", " ");
        goesOn("bar 0", ";");
        goesOn("bar 9", ";0123456789");
        goesOn("bar 10", ";");
    }

    static void promise3CourtFaultInATest() {
        goesOn("weigh 1 ", "pkvd!(");
        for (char of : "pkvd".toCharArray()) {
            goesOn("clash 1 " + of, "<=>");
            for (char how : "<=>".toCharArray()) {
                goesOn("clash 1 " + of + how, "0123456789");
            }
        }
    }

    static void promise3CourtFaultBehindATest() {
        goesOn("clash 1 p=0", "&|;");
        goesOn("clash 1 p=1", "&|;0123456789");
        goesOn("clash 1 p=10", "&|;");
        goesOn("clash 1 (p=0", "&|)");
        goesOn("clash 1 (p=1", "&|)0123456789");
        goesOn("clash 1 (p=99", "&|)");
        goesOn("clash 1 !p=0", "&|;");
    }

    static void promise3CourtFaultBehindAndOrNotAndBrackets() {
        goesOn("clash 1 p=0&", "pkvd!(");
        goesOn("clash 1 p=0|", "pkvd!(");
        goesOn("clash 1 !", "pkvd!(");
        goesOn("clash 1 (", "pkvd!(");
        goesOn("clash 1 (p=0&", "pkvd!(");
        goesOn("clash 1 (p=0)", "&|;");
        goesOn("clash 1 ((p=0)", "&|)");
        goesOn("clash 1 (!(p=0)", "&|)");
    }

    static void promise3CourtFaultBehindASemicolon() {
        goesOn("bar 1;", "wcb");
        goesOn("weigh 1 p=0;", "wcb");
        goesOn("clash 1 (p=0);", "wcb");
        goesOn("bar 1;".repeat(9), "wcb");
    }

    static void promise3CourtFaultBehindThe10thClause() {
        goesOn("bar 1;".repeat(9) + "bar 0", "");
        goesOn("bar 1;".repeat(9) + "bar 10", "");
        goesOn("bar 1;".repeat(9) + "bar 1", "0123456789");
        goesOn("bar 1;".repeat(9) + "clash 0 p=0", "&|");
    }

    // ---- 3 court: what is open

    static void promise3CourtWith5NotsOpen() {
        right("weigh 1 !!!!!p=1");
        goesOn("weigh 1 !!!!", "pkvd!(");
    }

    static void promise3CourtWith6NotsOpenIsAFault() {
        fault("weigh 1 !!!!!!p=1", 13);
        goesOn("weigh 1 !!!!!", "pkvd");
    }

    static void promise3CourtWith5BracketsOpen() {
        right("weigh 1 (((((p=1)))))");
        goesOn("weigh 1 ((((", "pkvd!(");
    }

    static void promise3CourtWith6BracketsOpenIsAFault() {
        fault("weigh 1 ((((((p=1))))))", 13);
        goesOn("weigh 1 (((((", "pkvd");
        goesOn("weigh 1 (((((p=0&", "pkvd");
        goesOn("weigh 1 (((((p=0|", "pkvd");
    }

    static void promise3CourtWith6OpenOfBothIsAFault() {
        fault("weigh 1 !(!(!(p=1)))", 13);
        fault("weigh 1 (!(!(!p=1)))", 13);
        goesOn("weigh 1 !(!(!", "pkvd");
        goesOn("weigh 1 (!(!(", "pkvd");
    }

    static void promise3CourtHasABracketOpenTillItsEnd() {
        goesOn("weigh 1 (((((p=0)", "&|)");
        goesOn("weigh 1 (((((p=0)&", "pkvd!(");
        goesOn("weigh 1 (((((p=0)&(", "pkvd");
        goesOn("weigh 1 (((((p=0)))))&((((", "pkvd!(");
        right("weigh 1 (p=1)&(p=1)&(p=1)&(p=1)&(p=1)&(p=1)|(((((p=1)))))");
    }

    static void promise3CourtHasANotOpenTillItsFactorEnds() {
        right("weigh 1 !!!!!p=1&!!!!!p=1|!!!!!p=1");
        right("weigh 1 !p=1&!p=1&!p=1&!p=1&!p=1&!p=1");
        right("weigh 1 (!p=1|!p=1|!p=1|!p=1|!p=1|!p=1)");
        goesOn("weigh 1 !!!!!p=0&!!!!", "pkvd!(");
        goesOn("weigh 1 !!!!(p=0)&!!!!", "pkvd!(");
    }

    static void promise3CourtHasANotOpenWhileItsBracketIs() {
        goesOn("weigh 1 !!!!(", "pkvd");
        goesOn("weigh 1 !!!!(p=0&", "pkvd");
        goesOn("weigh 1 !!!(p=0&", "pkvd!(");
        goesOn("weigh 1 !!!(p=0&!", "pkvd");
    }

    static void promise3CourtClosesWhatIsOpenAlone() {
        fault("weigh 1 p=1)", 11);
        fault("weigh 1 (p=1))", 13);
        fault("weigh 1 )", 8);
        fault("weigh 1 ()", 9);
        fault("weigh 1 (p=1&)", 13);
        fault("weigh 1 !)", 9);
    }

    static void promise3CourtClosesAllThatIsOpen() {
        fault("weigh 1 (p=1", 12);
        fault("weigh 1 (p=1;bar 1", 12);
        fault("weigh 1 ((p=1)", 14);
        fault("weigh 1 ((p=1);bar 1", 14);
    }

    // ---- 3 court: how long the tape is

    static void promise3CourtOf100Signs() {
        right(longCourt());
    }

    static void promise3CourtFaultAtTheLastOf100Signs() {
        fault(longCourt().substring(0, 99) + "x", 99);
    }

    static void promise3CourtThatEndsTooEarlyIsAFaultAtTheSize() {
        String text = "weigh 1 p=0";
        for (int size = 0; size < text.length(); size++) {
            fault(text.substring(0, size), size);
        }
    }

    static void promise3CourtThatEndsTooEarlyAt100IsAFaultAt100() {
        fault(longCourt().substring(0, 99) + "&", 99);
        fault("weigh 1 p=1" + "|p=2".repeat(22) + "|", 100);
        fault("bar 1;" + "weigh 1 p=1" + "|p=2".repeat(20) + "&(!", 100);
    }

    /** Nothing of what was read up to a fault goes on in the next court. */
    static void promise3CourtBehindAFaultIsReadFromTheStart() {
        String[] faults = {"weigh 1 !!!!!!", "weigh 1 ((((((", "weigh 1 (p=0|(p=1&!!!", "clash 1 p=0&p=", "weigh 9", "ba",
            TEN_CLAUSES + ";", "bar 1;bar 9;", ""};
        for (String fault : faults) {
            OtherwiseCourt x = nothing();
            x.judge(JUDGE, 0);
            court(x, fault);
            due(court(x, "weigh 2 (((((p=1)))))"), 0);
            court(x, fault);
            due(x.at(0, 10), 1);
            due(x.at(0, 11), 3);
            due(x.told(1), 2);
            due(court(x, "weigh 3 !!!!!p=1"), 1);
            court(x, fault);
            due(court(x, "weigh 4 p=1;" + "bar 1;".repeat(8) + "bar 7"), 2);
            due(x.at(0, 11), 5);
            due(x.told(1), 7);
        }
    }

    static void promise3CourtFaultIsTheFirstOfSeveral() {
        fault("bar 1;xx;xx", 6);
        fault("weigh 01 q=1", 7);
    }

    static void promise3CourtFaultOfTheLeastAndTheGreatestSign() {
        fault("\u0000", 0);
        fault("\u007f", 0);
        fault("bar 1\u0000", 5);
        fault("bar 1\u007f", 5);
    }

    // ---- 4 day

    static void promise4DayIs0AtFirst() {
        due(nothing().day(3), 0);
    }

    static void promise4DayBecomes0() {
        OtherwiseCourt x = nothing();
        x.day(5);
        due(x.day(0), 5);
        due(x.told(0), 0);
    }

    static void promise4DayBecomes9() {
        OtherwiseCourt x = nothing();
        due(x.day(9), 0);
        due(x.told(0), 9);
        due(x.day(9), 9);
    }

    static void promise4DayBelow0IsBad() {
        dueWithEach(n -> nothing().day(n), BAD, -1, LOWEST);
    }

    static void promise4DayAbove9IsBad() {
        dueWithEach(n -> nothing().day(n), BAD, 10, 100, HIGHEST);
    }

    static void promise4DayRefusedChangesNothing() {
        changesNothing(Sentences::some, BAD, x -> x.day(10));
        changesNothing(Sentences::some, BAD, x -> x.day(-1));
    }

    // ---- 5 suit

    static void promise5SuitOfNoPoints() {
        OtherwiseCourt x = nothing();
        due(x.suit(0, 5), 0);
        due(x.of(0, 0), 0);
    }

    static void promise5SuitOfAllPoints() {
        OtherwiseCourt x = nothing();
        due(x.suit(255, 5), 0);
        due(x.of(0, 0), 255);
    }

    static void promise5SuitOfWorth0() {
        OtherwiseCourt x = nothing();
        due(x.suit(5, 0), 0);
        due(x.of(0, 1), 0);
    }

    static void promise5SuitOfWorth99() {
        OtherwiseCourt x = nothing();
        due(x.suit(5, 99), 0);
        due(x.of(0, 1), 99);
    }

    static void promise5SuitOfPointsBelow0IsBad() {
        dueWithEach(n -> nothing().suit(n, 5), BAD, -1, -256, LOWEST);
    }

    static void promise5SuitOfPointsAbove255IsBad() {
        dueWithEach(n -> nothing().suit(n, 5), BAD, 256, 511, HIGHEST);
    }

    static void promise5SuitOfWorthBelow0IsBad() {
        dueWithEach(n -> nothing().suit(5, n), BAD, -1, LOWEST);
    }

    static void promise5SuitOfWorthAbove99IsBad() {
        dueWithEach(n -> nothing().suit(5, n), BAD, 100, HIGHEST);
    }

    static void promise5SuitsAreNumberedFrom0To7() {
        OtherwiseCourt x = nothing();
        for (int s = 0; s < 8; s++) {
            due(x.suit(5, 5), s);
            due(x.count(0), s + 1);
        }
    }

    static void promise5SuitOfThe9thIsFull() {
        OtherwiseCourt x = suits(1, 2, 3, 4, 5, 6, 7, 8);
        due(x.suit(9, 9), FULL);
        due(x.count(0), 8);
    }

    static void promise5SuitIsBadAheadOfFull() {
        OtherwiseCourt x = suits(1, 2, 3, 4, 5, 6, 7, 8);
        due(x.suit(256, 9), BAD);
        due(x.suit(-1, 9), BAD);
        due(x.suit(9, 100), BAD);
        due(x.suit(9, -1), BAD);
    }

    static void promise5SuitRefusedChangesNothing() {
        changesNothing(Sentences::nothing, BAD, x -> x.suit(256, 0));
        changesNothing(Sentences::some, BAD, x -> x.suit(-1, 0));
        changesNothing(Sentences::some, BAD, x -> x.suit(0, 100));
        changesNothing(Sentences::full, FULL, x -> x.suit(0, 0));
    }

    // ---- 6 of

    static void promise6OfEachSuitFromTheFirstToTheLast() {
        OtherwiseCourt x = suits(1, 2, 3, 4, 5, 6, 7, 255);
        for (int s = 0; s < 8; s++) {
            due(x.of(s, 0), s == 7 ? 255 : s + 1);
            due(x.of(s, 1), 10 * s + 10);
        }
    }

    static void promise6OfNoSuchSuit() {
        OtherwiseCourt x = suits(1, 2);
        dueWithEach(s -> x.of(s, 0), NONE, -1, 2, 7, 8, LOWEST, HIGHEST);
        dueWithEach(s -> full().of(s, 1), NONE, -1, 8, LOWEST, HIGHEST);
    }

    static void promise6OfNoSuchWhat() {
        OtherwiseCourt x = suits(1, 2);
        dueWithEach(what -> x.of(0, what), NONE, -1, 2, LOWEST, HIGHEST);
    }

    static void promise6OfChangesNothing() {
        changesNothing(Sentences::some, 6, x -> x.of(1, 0));
        changesNothing(Sentences::some, NONE, x -> x.of(3, 0));
        changesNothing(Sentences::some, NONE, x -> x.of(0, 2));
    }

    // ---- 7 judge

    static void promise7JudgeOfTheFirstKind() {
        OtherwiseCourt x = nothing();
        due(x.judge(0, 3), 0);
        due(x.at(0, 0), 0);
    }

    static void promise7JudgeOfTheLastKind() {
        OtherwiseCourt x = nothing();
        due(x.judge(6, 3), 0);
        due(x.at(0, 0), 6);
    }

    static void promise7JudgeOfNoSuchKind() {
        dueWithEach(kind -> nothing().judge(kind, 3), NONE, -1, 7, LOWEST, HIGHEST);
    }

    static void promise7JudgeOfV0() {
        OtherwiseCourt x = nothing();
        due(x.judge(3, 0), 0);
        due(x.at(0, 1), 0);
    }

    static void promise7JudgeOfV9() {
        OtherwiseCourt x = nothing();
        due(x.judge(3, 9), 0);
        due(x.at(0, 1), 9);
    }

    static void promise7JudgeOfVBelow0OrAbove9IsBad() {
        dueWithEach(v -> nothing().judge(3, v), BAD, -1, 10, LOWEST, HIGHEST);
    }

    static void promise7JudgesAreNumberedFrom0To3() {
        OtherwiseCourt x = nothing();
        for (int j = 0; j < 4; j++) {
            due(x.judge(j, j), j);
            due(x.count(1), j + 1);
        }
    }

    static void promise7JudgeOfThe5thIsFull() {
        OtherwiseCourt x = full();
        due(x.judge(0, 0), FULL);
        due(x.count(1), 4);
    }

    static void promise7JudgeIsNoneAheadOfBad() {
        due(nothing().judge(7, 10), NONE);
        due(nothing().judge(-1, -1), NONE);
    }

    static void promise7JudgeIsNoneAheadOfFull() {
        due(full().judge(7, 0), NONE);
        due(full().judge(-1, 10), NONE);
    }

    static void promise7JudgeIsBadAheadOfFull() {
        due(full().judge(0, 10), BAD);
        due(full().judge(6, -1), BAD);
    }

    static void promise7JudgeRefusedChangesNothing() {
        changesNothing(Sentences::nothing, NONE, x -> x.judge(7, 0));
        changesNothing(Sentences::some, NONE, x -> x.judge(-1, 0));
        changesNothing(Sentences::some, BAD, x -> x.judge(0, 10));
        changesNothing(Sentences::full, FULL, x -> x.judge(0, 0));
    }

    // ---- 8 at

    static void promise8AtEachJudgeFromTheFirstToTheLast() {
        OtherwiseCourt x = nothing();
        for (int j = 0; j < 4; j++) {
            x.judge(j + 3, j + 6);
        }
        for (int j = 0; j < 4; j++) {
            due(x.at(j, 0), j + 3);
            due(x.at(j, 1), j + 6);
        }
    }

    static void promise8AtNoSuchJudge() {
        dueWithEach(j -> some().at(j, 0), NONE, -1, 3, 4, LOWEST, HIGHEST);
        dueWithEach(j -> full().at(j, 10), NONE, -1, 4, LOWEST, HIGHEST);
        due(nothing().at(0, 10), NONE);
    }

    static void promise8AtNoSuchWhat() {
        dueWithEach(what -> some().at(0, what), NONE, -1, 2, 9, 18, 19, 28, LOWEST, HIGHEST);
    }

    static void promise8AtTheFirstAndTheLastPoint() {
        OtherwiseCourt x = nothing();
        x.judge(JUDGE, 0);
        court(x, "weigh 3 p=0;weigh 4 p=7;clash 5 p=0;clash 6 p=7");
        due(x.at(0, 10), 4);
        due(x.at(0, 17), 5);
        due(x.at(0, 20), 5);
        due(x.at(0, 27), 6);
        due(x.at(0, 11) + x.at(0, 16), 2);
        due(x.at(0, 21) + x.at(0, 26), 0);
    }

    static void promise8AtIsWeight1AndClash0WithoutACourt() {
        OtherwiseCourt x = nothing();
        x.judge(JUDGE, 0);
        for (int p = 0; p < 8; p++) {
            due(x.at(0, 10 + p), 1);
            due(x.at(0, 20 + p), 0);
        }
    }

    static void promise8AtIsWeight1AndClash0WhereNoExpressionHolds() {
        OtherwiseCourt x = nothing();
        x.judge(JUDGE, 0);
        court(x, "weigh 9 p>7;clash 9 p<0");
        for (int p = 0; p < 8; p++) {
            due(x.at(0, 10 + p), 1);
            due(x.at(0, 20 + p), 0);
        }
    }

    static void promise8AtIsAllThatHoldTogether() {
        OtherwiseCourt x = nothing();
        x.judge(JUDGE, 0);
        court(x, "weigh 99 p=0;".repeat(6) + "weigh 99 p<1");
        due(x.at(0, 10), 694);
        court(x, "clash 99 p=7;".repeat(6) + "clash 99 p>6");
        due(x.at(0, 27), 693);
    }

    static void promise8AtOfNumber0() {
        OtherwiseCourt x = nothing();
        x.judge(JUDGE, 0);
        court(x, "weigh 0 p=0;clash 0 p=0");
        due(x.at(0, 10), 1);
        due(x.at(0, 20), 0);
    }

    /** Whether the expression holds for point 3 of a judge. */
    private static void holds(OtherwiseCourt x, String expression, boolean does) {
        due(court(x, "clash 1 " + expression), x.count(2) - 1);
        due(x.at(0, 23), does ? 1 : 0);
    }

    private static OtherwiseCourt nearOfV6OnDay4() {
        OtherwiseCourt x = nothing();
        x.judge(NEAR, 6);
        x.day(4);
        return x;
    }

    private static void holdsAbout(char of, int value) {
        OtherwiseCourt x = nearOfV6OnDay4();
        x.image();
        for (int n = value - 1; n <= value + 1; n++) {
            holds(x, of + "<" + n, n == value + 1);
            holds(x, of + "=" + n, n == value);
            holds(x, of + ">" + n, n == value - 1);
            x.undo();
        }
    }

    static void promise8AtTestsOfThePoint() {
        holdsAbout('p', 3);
    }

    static void promise8AtTestsOfTheKind() {
        holdsAbout('k', 2);
    }

    static void promise8AtTestsOfV() {
        holdsAbout('v', 6);
    }

    static void promise8AtTestsOfTheDay() {
        holdsAbout('d', 4);
    }

    static void promise8AtTestsWithTheLeastAndTheGreatestNumber() {
        holds(nearOfV6OnDay4(), "p<0", false);
        holds(nearOfV6OnDay4(), "p>0", true);
        holds(nearOfV6OnDay4(), "p<99", true);
        holds(nearOfV6OnDay4(), "p>99", false);
        holds(nearOfV6OnDay4(), "p=99", false);
    }

    static void promise8AtTestsOfEachKindVAndDay() {
        for (int n = 0; n <= 9; n++) {
            OtherwiseCourt x = nothing();
            x.judge(n % 7, n);
            x.day(n);
            court(x, "weigh 1 k=" + n % 7 + ";weigh 2 v=" + n + ";weigh 4 d=" + n);
            due(x.at(0, 10), 8);
        }
    }

    static void promise8AtAndHoldsIfBothDo() {
        holds(nearOfV6OnDay4(), "p=3&v=6", true);
        holds(nearOfV6OnDay4(), "p=3&v=5", false);
        holds(nearOfV6OnDay4(), "p=2&v=6", false);
        holds(nearOfV6OnDay4(), "p=3&v=6&d=5", false);
    }

    static void promise8AtOrHoldsIfOneDoes() {
        holds(nearOfV6OnDay4(), "p=3|v=5", true);
        holds(nearOfV6OnDay4(), "p=2|v=6", true);
        holds(nearOfV6OnDay4(), "p=2|v=5", false);
        holds(nearOfV6OnDay4(), "p=2|v=5|d=4", true);
    }

    static void promise8AtAndBindsAheadOfOr() {
        holds(nearOfV6OnDay4(), "p=3|p=3&p=2", true);
        holds(nearOfV6OnDay4(), "p=2&p=3|p=3", true);
        holds(nearOfV6OnDay4(), "p=2&p=2|p=2&p=3", false);
    }

    static void promise8AtBracketsBindAheadOfAnd() {
        holds(nearOfV6OnDay4(), "(p=3|p=3)&p=2", false);
        holds(nearOfV6OnDay4(), "p=2&(p=3|p=3)", false);
        holds(nearOfV6OnDay4(), "p=3&(p=2|p=3)", true);
    }

    static void promise8AtBracketsBehindOneAnotherAreEachTheirOwn() {
        holds(nearOfV6OnDay4(), "(p=3)&(p=2)", false);
        holds(nearOfV6OnDay4(), "(p=2)&(p=3)", false);
        holds(nearOfV6OnDay4(), "(p=2)|(p=3)", true);
        holds(nearOfV6OnDay4(), "(p=3|p=2)&(p=2)", false);
        holds(nearOfV6OnDay4(), "((p=3)&(p=2))", false);
        holds(nearOfV6OnDay4(), "((p=3|p=2)&(p=2))", false);
        holds(nearOfV6OnDay4(), "!(p=3)|(p=2)", false);
        holds(nearOfV6OnDay4(), "(p=3)&!(p=3)", false);
    }

    static void promise8AtEachPointByBracketsAndNots() {
        for (int p = 0; p < 8; p++) {
            OtherwiseCourt x = nothing();
            x.judge(JUDGE, 0);
            court(x, "clash 1 (p=" + p + ");clash 2 !p=" + p + ";clash 4 (!(p=" + p + "))");
            for (int of = 0; of < 8; of++) {
                due(x.at(0, 20 + of), of == p ? 1 : 6);
            }
        }
    }

    static void promise8AtNotBindsItsFactorAlone() {
        holds(nearOfV6OnDay4(), "!p=3", false);
        holds(nearOfV6OnDay4(), "!p=2", true);
        holds(nearOfV6OnDay4(), "!p=2&p=2", false);
        holds(nearOfV6OnDay4(), "!p=3|p=3", true);
        holds(nearOfV6OnDay4(), "!(p=2&p=2)", true);
        holds(nearOfV6OnDay4(), "!(p=2|p=3)", false);
    }

    static void promise8AtNotsAndBracketsAtTheirDeepest() {
        holds(nearOfV6OnDay4(), "!!!!!p=3", false);
        holds(nearOfV6OnDay4(), "!!!!p=3", true);
        holds(nearOfV6OnDay4(), "!(!(!p=3))", false);
        holds(nearOfV6OnDay4(), "!!(!!p=3)", true);
        holds(nearOfV6OnDay4(), "!!!!!p=2", true);
        holds(nearOfV6OnDay4(), "(((((p=3)))))", true);
        holds(nearOfV6OnDay4(), "(((((p=2)))))", false);
        holds(nearOfV6OnDay4(), "(((((p=3&p=2)))))", false);
        holds(nearOfV6OnDay4(), "(((((p=2|p=3)))))", true);
        holds(nearOfV6OnDay4(), "!!!!(p=2|p=3)", true);
        holds(nearOfV6OnDay4(), "p=2|(p=3&(p=3|(p=2&(p=2&(p=2)))))", true);
    }

    static void promise8AtChangesNothing() {
        changesNothing(Sentences::some, 3, x -> x.at(1, 11));
        changesNothing(Sentences::some, NONE, x -> x.at(1, 28));
        changesNothing(Sentences::full, NONE, x -> x.at(4, 0));
    }

    // ---- 9 row

    private static OtherwiseCourt told() {
        OtherwiseCourt x = nothing();
        x.judge(TOLD, 0);
        return x;
    }

    static void promise9RowIs0AtFirst() {
        for (int k = 0; k < 4; k++) {
            due(told().row(0, k, 1), 0);
        }
    }

    static void promise9RowBecomesEachNumber() {
        OtherwiseCourt x = told();
        for (int k = 0; k < 4; k++) {
            due(x.row(0, k, 2), 0);
            due(x.row(0, k, 1), 2);
            due(x.row(0, k, 0), 1);
            due(x.row(0, k, 0), 0);
        }
    }

    static void promise9RowOfNoSuchJudge() {
        dueWithEach(j -> some().row(j, 0, 0), NONE, -1, 3, 4, LOWEST, HIGHEST);
        due(nothing().row(0, 0, 0), NONE);
    }

    static void promise9RowOfNoSuchK() {
        dueWithEach(k -> told().row(0, k, 0), NONE, -1, 4, LOWEST, HIGHEST);
    }

    static void promise9RowBelow0OrAbove2IsBad() {
        dueWithEach(n -> told().row(0, 0, n), BAD, -1, 3, LOWEST, HIGHEST);
    }

    static void promise9RowOfAnotherKindIsState() {
        for (int kind = 0; kind < 6; kind++) {
            OtherwiseCourt x = nothing();
            x.judge(kind, 0);
            due(x.row(0, 0, 0), STATE);
            due(x.row(0, 3, 2), STATE);
        }
    }

    static void promise9RowIsNoneAheadOfBad() {
        due(told().row(1, 0, 3), NONE);
        due(told().row(0, 4, 3), NONE);
        due(told().row(0, -1, -1), NONE);
    }

    static void promise9RowIsNoneAheadOfState() {
        OtherwiseCourt x = nothing();
        x.judge(MOST, 0);
        due(x.row(0, 4, 0), NONE);
    }

    static void promise9RowIsBadAheadOfState() {
        OtherwiseCourt x = nothing();
        x.judge(MOST, 0);
        due(x.row(0, 0, 3), BAD);
    }

    static void promise9RowIsEachJudgesOwn() {
        OtherwiseCourt x = nothing();
        for (int j = 0; j < 4; j++) {
            x.judge(TOLD, 0);
        }
        x.row(0, 3, 1);
        x.row(3, 0, 2);
        due(x.row(1, 0, 0), 0);
        due(x.row(1, 3, 0), 0);
        due(x.row(0, 3, 0), 1);
        due(x.row(3, 0, 0), 2);
        due(x.row(3, 3, 0), 0);
    }

    static void promise9RowRefusedChangesNothing() {
        changesNothing(Sentences::some, NONE, x -> x.row(1, 4, 1));
        changesNothing(Sentences::some, BAD, x -> x.row(1, 0, 3));
        changesNothing(Sentences::some, STATE, x -> x.row(0, 0, 2));
        changesNothing(Sentences::full, STATE, x -> x.row(2, 2, 2));
    }

    // ---- 10 told

    static void promise10ToldTheDay() {
        OtherwiseCourt x = nothing();
        due(x.told(0), 0);
        x.day(9);
        due(x.told(0), 9);
    }

    static void promise10ToldBar2Without() {
        OtherwiseCourt x = nothing();
        due(x.told(1), 2);
        court(x, "clash 1 p=1");
        due(x.told(1), 2);
    }

    static void promise10ToldTheLastBar() {
        OtherwiseCourt x = nothing();
        court(x, "bar 9;bar 0;weigh 8 p=1");
        due(x.told(1), 0);
        court(x, "bar 0;weigh 8 p=1;bar 99");
        due(x.told(1), 99);
    }

    static void promise10ToldNoSuchWhat() {
        dueWithEach(what -> some().told(what), NONE, -1, 2, LOWEST, HIGHEST);
    }

    static void promise10ToldChangesNothing() {
        changesNothing(Sentences::some, 6, x -> x.told(0));
        changesNothing(Sentences::some, 1, x -> x.told(1));
        changesNothing(Sentences::some, NONE, x -> x.told(2));
    }

    // ----

    private static void fault(String text, int place) {
        long got = court(nothing(), text);
        if (got != -10 - place) {
            throw new AssertionError("fault of " + text + ": " + got + ", due is " + (-10 - place));
        }
    }

    private static void right(String text) {
        long got = court(nothing(), text);
        if (got != 0) {
            throw new AssertionError("no fault of " + text + ": " + got);
        }
    }

    /** Behind the text these signs can go on, and none of the others. */
    private static void goesOn(String text, String signs) {
        for (int sign = 0; sign <= 127; sign++) {
            OtherwiseCourt x = nothing();
            feed(x, text);
            x.feed(sign);
            boolean does = x.court() != -10 - text.length();
            if (does != signs.indexOf(sign) >= 0) {
                throw new AssertionError("behind " + text + " sign " + sign + (does ? " goes on" : " is a fault"));
            }
        }
    }

    public static void main(String[] args) throws IllegalAccessException {
        runAll(BoundsOfCourtsTest.class, 1, 10);
    }
}
