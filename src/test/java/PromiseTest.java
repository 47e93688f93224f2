/** Each promise of the document by itself: ordinary calls, the edges, the refusals and which of them comes first. */
public final class PromiseTest {
    private static final int NONE = -1, BAD = -2, STATE = -3, FULL = -4, NOTHING = -5;
    private static final int NONE_FAR = -100001, BAD_FAR = -100002;
    private static final int[] NO_SUCH = {-1, -2, Integer.MIN_VALUE, 100, Integer.MAX_VALUE};

    private static int wrong = 0;
    private static int looked = 0;

    private static void due(String what, long got, long want) {
        looked++;
        if (got != want) {
            wrong++;
            System.out.println(what + ": " + got + ", due is " + want);
        }
    }

    private static void feed(OtherwiseCourt x, String text) {
        for (int i = 0; i < text.length(); i++) {
            x.feed(text.charAt(i));
        }
    }

    private static int court(OtherwiseCourt x, String text) {
        feed(x, text);
        return x.court();
    }

    /** Suits with these points; each is worth 10 times its number and 10. */
    private static OtherwiseCourt suits(int... points) {
        OtherwiseCourt x = new OtherwiseCourt();
        for (int i = 0; i < points.length; i++) {
            x.suit(points[i], 10 * i + 10);
        }
        return x;
    }

    private static void enter(OtherwiseCourt x, int... entries) {
        for (int entry : entries) {
            x.enter(entry / 2, entry % 2 == 1);
        }
    }

    private static OtherwiseCourt fullBook(int judgeKind, int v) {
        OtherwiseCourt x = suits(3);
        x.judge(judgeKind, v);
        for (int k = 0; k < 24; k++) {
            x.enter(0, k % 2 == 0);
        }
        return x;
    }

    private static void newObject() {
        OtherwiseCourt x = new OtherwiseCourt();
        for (int what = 0; what <= 6; what++) {
            due("1 count " + what, x.count(what), 0);
        }
        due("1 day", x.told(0), 0);
        due("1 bar", x.told(1), 2);
        due("1 suit", x.of(0, 0), NONE);
        due("1 judge", x.at(0, 0), NONE);
        due("1 entry", x.entry(0), NONE);
        due("1 trace", x.trace(0), NONE);
        due("1 image", x.undo(), STATE);
        due("1 constants", OtherwiseCourt.NONE == -1 && OtherwiseCourt.BAD == -2 && OtherwiseCourt.STATE == -3
            && OtherwiseCourt.FULL == -4 && OtherwiseCourt.NO == Long.MIN_VALUE ? 1 : 0, 1);
    }

    private static void feeding() {
        OtherwiseCourt x = new OtherwiseCourt();
        due("2 below", x.feed(-1), BAD);
        due("2 above", x.feed(128), BAD);
        due("2 nothing came", x.count(5), 0);
        due("2 least", x.feed(0), 1);
        due("2 greatest", x.feed(127), 2);
        for (int i = 3; i <= 100; i++) {
            due("2 " + i, x.feed('a'), i);
        }
        due("2 full", x.feed('a'), FULL);
        due("2 bad ahead of full", x.feed(128), BAD);
        due("2 still 100", x.count(5), 100);
    }

    private static void courts() {
        OtherwiseCourt x = new OtherwiseCourt();
        x.judge(0, 0);
        due("3 empty", x.court(), -10);
        due("3 first", court(x, "bar 7"), 0);
        due("3 holds", x.told(1), 7);
        due("3 tape", x.count(5), 0);
        due("3 fault", court(x, "bar 9;"), -16);
        due("3 tape by a fault", x.count(5), 0);
        due("3 the one that held holds", x.told(1), 7);
        due("3 a fault is none", x.count(2), 1);
        due("3 newest", court(x, "bar 3;bar 12;weigh 99 p=0"), 1);
        due("3 last bar", x.told(1), 12);
        due("3 weight", x.at(0, 10), 100);
        due("3 no bar", court(x, "clash 0 p=0"), 2);
        due("3 bar 2 without", x.told(1), 2);
        due("3 weights of the newest alone", x.at(0, 10), 1);
        due("3", court(x, "bar 0"), 3);
        due("3", court(x, "bar 10"), 4);
        feed(x, "bar 4");
        due("3 full", x.court(), FULL);
        due("3 the tape stays", x.count(5), 5);
        feed(x, "xx");
        due("3 full ahead of a fault", x.court(), FULL);
        due("3 holds", x.told(1), 10);
    }

    private static void faults() {
        fault("x", 0);
        fault(";", 0);
        fault("w", 1);
        fault("weigh", 5);
        fault("weight", 5);
        fault("weigh ", 6);
        fault("weigh  1", 6);
        fault("weigh 1", 7);
        fault("weigh 1 ", 8);
        fault("weigh 1;", 7);
        fault("weigh 00 p=1", 7);
        fault("weigh 123 p=1", 8);
        fault("weigh 1  p=1", 8);
        fault("clash 1 p", 9);
        fault("clash 1 p=", 10);
        fault("clash 1 p==", 10);
        fault("clash 1 p=a", 10);
        fault("clash 1 p=01", 11);
        fault("clash 1 p=123", 12);
        fault("clash 1 q=1", 8);
        fault("clash 1 p=1 ", 11);
        fault("clash 1 p=1)", 11);
        fault("clash 1 (p=1", 12);
        fault("clash 1 (p=1;", 12);
        fault("clash 1 ()", 9);
        fault("clash 1 !", 9);
        fault("clash 1 p=1&", 12);
        fault("clash 1 p=1||", 12);
        fault("clash 1 p=1!p=1", 11);
        fault("bar", 3);
        fault("bar ", 4);
        fault("bar p=1", 4);
        fault("bar 1 p=1", 5);
        fault("bar 1; bar 1", 6);
        fault("bar 1;", 6);
        fault("bar 1;;", 6);
        fault("clash 1 !!!!!!p=1", 13);
        fault("clash 1 ((((((p=1", 13);
        fault("clash 1 !(!(!(p=1", 13);
        fault("bar 1;bar 1;bar 1;bar 1;bar 1;bar 1;bar 1;bar 1;bar 1;bar 1;", 59);
        fault("bar 1;bar 1;bar 1;bar 1;bar 1;bar 1;bar 1;bar 1;bar 1;bar 1;bar 1", 59);
        right("bar 1;bar 1;bar 1;bar 1;bar 1;bar 1;bar 1;bar 1;bar 1;bar 1");
        right("clash 1 !!!!!p=1&!!!!!p=1|(((((p=1)))))");
        right("clash 1 !(!(!p=1))&(p=1&(k=2|(v<3|(d>4&(p=99)))))");
        right("weigh 10 p<0;clash 99 p=10|k>0&v<9;bar 99");
    }

    private static void fault(String text, int place) {
        due("3 fault of " + text, court(new OtherwiseCourt(), text), -10 - place);
    }

    private static void right(String text) {
        due("3 no fault of " + text, court(new OtherwiseCourt(), text), 0);
    }

    private static void days() {
        OtherwiseCourt x = new OtherwiseCourt();
        due("4 was 0", x.day(9), 0);
        due("4 was 9", x.day(0), 9);
        due("4 above", x.day(10), BAD);
        due("4 below", x.day(-1), BAD);
        due("4 stays", x.day(3), 0);
    }

    private static void newSuits() {
        OtherwiseCourt x = new OtherwiseCourt();
        due("5 points above", x.suit(256, 0), BAD);
        due("5 points below", x.suit(-1, 0), BAD);
        due("5 worth above", x.suit(0, 100), BAD);
        due("5 worth below", x.suit(0, -1), BAD);
        due("5 none came", x.count(0), 0);
        due("5 least", x.suit(0, 0), 0);
        due("5 greatest", x.suit(255, 99), 1);
        for (int i = 2; i < 8; i++) {
            due("5 number", x.suit(i, i), i);
        }
        due("5 full", x.suit(0, 0), FULL);
        due("5 bad ahead of full", x.suit(256, 0), BAD);
        due("5 still 8", x.count(0), 8);
        due("6 points", x.of(1, 0), 255);
        due("6 worth", x.of(1, 1), 99);
        due("6 last", x.of(7, 0), 7);
        due("6 what", x.of(0, 2), NONE);
        due("6 what", x.of(0, -1), NONE);
        for (int none : NO_SUCH) {
            due("6 suit " + none, x.of(none, 0), NONE);
        }
        due("6 suit 8", x.of(8, 0), NONE);
    }

    private static void newJudges() {
        OtherwiseCourt x = new OtherwiseCourt();
        due("7 kind", x.judge(7, 0), NONE);
        due("7 kind ahead of v", x.judge(-1, 10), NONE);
        due("7 v", x.judge(0, 10), BAD);
        due("7 v", x.judge(6, -1), BAD);
        due("7 first", x.judge(0, 0), 0);
        due("7", x.judge(6, 9), 1);
        due("7", x.judge(5, 4), 2);
        due("7", x.judge(1, 1), 3);
        due("7 full", x.judge(0, 0), FULL);
        due("7 kind ahead of full", x.judge(7, 0), NONE);
        due("7 v ahead of full", x.judge(0, 10), BAD);
        due("8 kind", x.at(1, 0), 6);
        due("8 v", x.at(1, 1), 9);
        due("8 weight", x.at(1, 17), 1);
        due("8 clash", x.at(1, 20), 0);
        for (int what : new int[] {-1, 2, 9, 18, 19, 28, Integer.MAX_VALUE, Integer.MIN_VALUE}) {
            due("8 what " + what, x.at(0, what), NONE);
        }
        for (int none : NO_SUCH) {
            due("8 judge " + none, x.at(none, 0), NONE);
        }
    }

    private static void weights() {
        OtherwiseCourt x = new OtherwiseCourt();
        x.judge(2, 6);
        court(x, "weigh 3 p<2;weigh 40 p=1|p=7;clash 5 k=2&p>5;clash 6 k=3|v>5&d=4;weigh 7 !v=6");
        due("8 one weigh", x.at(0, 10), 4);
        due("8 two weighs", x.at(0, 11), 44);
        due("8 none", x.at(0, 12), 1);
        due("8 one", x.at(0, 17), 41);
        due("8 clash", x.at(0, 26), 5);
        due("8 no clash", x.at(0, 25), 0);
        x.day(4);
        due("8 day", x.at(0, 25), 6);
        due("8 both", x.at(0, 27), 11);
        court(x, "weigh 1 p=0|p=1&p=2;weigh 10 (p=0|p=1)&p=1;clash 1 !p=0&p<3;clash 10 !(p=0&p<3);clash 50 !!p=4");
        due("8 and ahead of or", x.at(0, 10), 2);
        due("8 brackets", x.at(0, 11), 11);
        due("8 not", x.at(0, 20), 0);
        due("8 not of one", x.at(0, 21), 11);
        due("8 not of brackets", x.at(0, 23), 10);
        due("8 not not", x.at(0, 24), 60);
    }

    private static void rows() {
        OtherwiseCourt x = suits(0, 1, 3, 7, 15);
        x.judge(6, 1);
        x.judge(3, 1);
        due("9 first", x.row(0, 0, 2), 0);
        due("9 what it was", x.row(0, 0, 1), 2);
        due("9 last", x.row(0, 3, 2), 0);
        due("9 k", x.row(0, 4, 0), NONE);
        due("9 k", x.row(0, -1, 0), NONE);
        due("9 n", x.row(0, 0, 3), BAD);
        due("9 n", x.row(0, 0, -1), BAD);
        due("9 k ahead of n", x.row(0, 4, 3), NONE);
        due("9 another kind", x.row(1, 0, 0), STATE);
        due("9 n ahead of kind", x.row(1, 0, 3), BAD);
        due("9 k ahead of kind", x.row(1, 4, 0), NONE);
        for (int none : NO_SUCH) {
            due("9 judge " + none, x.row(none, 0, 3), NONE);
        }
        due("9 changed nothing", x.row(0, 0, 2), 1);
        due("9 tells 0", x.decides(0, 0, 0), 0);
        due("9 tells nothing of 1", x.decides(0, 1, 0), 1);
        due("9 tells 3", x.decides(0, 3, 0), 0);
        due("9 tells 4 as 0", x.decides(0, 4, 0), 0);
        x.row(0, 0, 1);
        due("9 for it", x.decides(0, 4, 0), 1);
    }

    private static void telling() {
        OtherwiseCourt x = new OtherwiseCourt();
        x.day(6);
        due("10 day", x.told(0), 6);
        due("10 bar", x.told(1), 2);
        court(x, "bar 5;bar 0");
        due("10 bar", x.told(1), 0);
        due("10 what", x.told(2), NONE);
        due("10 what", x.told(-1), NONE);
    }

    private static void scores() {
        OtherwiseCourt x = suits(7, 6, 56, 0, 255);
        x.judge(0, 0);
        x.judge(1, 3);
        due("11 both have", x.score(0, 0, 1), 2);
        due("11 none", x.score(0, 0, 2), 0);
        due("11 itself", x.score(0, 4, 4), 8);
        due("11 judge", x.score(2, 0, 0), NONE_FAR);
        due("11 suit", x.score(0, 5, 0), NONE_FAR);
        due("11 other", x.score(0, 0, -1), NONE_FAR);
        court(x, "weigh 9 p=1;clash 4 p=0|p=7;clash 1 k=1&p=7;weigh 2 v=3");
        due("11 weights less clashes", x.score(0, 0, 1), 1 + 10 - 4);
        due("11 below none", x.score(0, 3, 4), -8);
        due("11 kind and v", x.score(1, 0, 1), 3 + 12 - 4);
        due("11 kind", x.score(1, 3, 4), -9);
        due("11 alike from both sides", x.score(1, 4, 3), -9);
    }

    private static void decided() {
        OtherwiseCourt x = suits(15, 3, 7, 12, 240);
        x.judge(0, 0);
        x.judge(1, 0);
        x.judge(2, 0);
        x.judge(3, 1);
        enter(x, 3, 4, 6, 7, 5, 8);
        for (int judge = 0; judge < 4; judge++) {
            due("12 like " + judge, x.decides(judge, 1, 2), 3);
        }
        due("12 judge", x.decides(0, 1, 0), 0);
        due("12 judge by", x.decides(0, 1, 1), 0);
        due("12 last", x.decides(1, 1, 0), 0);
        due("12 last by", x.decides(1, 1, 1), 4);
        due("12 last other", x.decides(1, 3, 0), 0);
        due("12 last by other", x.decides(1, 3, 1), 3);
        due("12 near by: the most, not the latest", x.decides(2, 0, 1), 4);
        due("12 near", x.decides(2, 0, 0), 0);
        due("12 near by: of several the latest", x.decides(2, 3, 1), 3);
        due("12 most: more for it", x.decides(3, 1, 0), 0);
        due("12 most by", x.decides(3, 1, 1), NOTHING);
        due("12 most: as many, as judge", x.decides(3, 3, 0), 1);
        due("12 most: as many, by", x.decides(3, 3, 1), NOTHING);
        due("12 none like: one entry is less than the bar", x.decides(0, 4, 2), 1);
        x.enter(-1, false);
        due("12 none", x.decides(0, 4, 0), 0);
        due("12 none, v odd", x.decides(3, 4, 0), 1);
        due("12 none, by", x.decides(0, 4, 1), NOTHING);
        due("12 none, like", x.decides(0, 4, 2), 0);
        for (int none : NO_SUCH) {
            due("12 judge " + none, x.decides(none, 0, 0), NONE);
            due("12 suit " + none, x.decides(0, none, 0), NONE);
            due("12 what " + none, x.decides(0, 0, none), NONE);
        }
        due("12 what 3", x.decides(0, 0, 3), NONE);
    }

    private static void decidedByOthers() {
        OtherwiseCourt x = suits(15, 3, 7, 12, 240, 1);
        x.judge(4, 5);
        x.judge(4, 4);
        x.judge(5, 1);
        x.judge(6, 3);
        enter(x, 3, 4, 1);
        due("12 orderly, torn, v above 4", x.decides(0, 1, 0), 1);
        due("12 orderly, torn, v 4", x.decides(1, 1, 0), 0);
        due("12 orderly, torn, by", x.decides(0, 1, 1), NOTHING);
        due("12 orderly as last", x.decides(0, 3, 0), 0);
        due("12 orderly as last, by", x.decides(0, 3, 1), 2);
        due("12 strict likes", x.decides(2, 2, 2), 2);
        due("12 strict by", x.decides(2, 2, 1), 2);
        due("12 strict", x.decides(2, 2, 0), 0);
        due("12 strict, none", x.decides(2, 1, 2), 0);
        due("12 strict, none", x.decides(2, 1, 0), 1);
        due("12 strict, none", x.decides(2, 1, 1), NOTHING);
        due("12 told as most", x.decides(3, 1, 0), 0);
        due("12 told by", x.decides(3, 1, 1), NOTHING);
        due("12 told, none", x.decides(3, 4, 0), 1);
        x.row(3, 2, 1);
        due("12 told by row", x.decides(3, 1, 0), 1);
        due("12 told by row, likes", x.decides(3, 1, 2), 3);
        x.row(3, 0, 2);
        due("12 told by row, none like", x.decides(3, 4, 0), 0);
        x.row(3, 1, 2);
        due("12 told by row ahead of v", x.decides(3, 5, 0), 0);
    }

    private static void heard() {
        OtherwiseCourt x = suits(3, 7);
        x.judge(1, 1);
        due("13 first by v", x.hear(0, 0), 1);
        due("13 otherwise", x.hear(0, 1), 0);
        due("13 otherwise", x.hear(0, 0), 1);
        due("13 comes to the book", x.count(3), 3);
        due("13 as it is decided", x.entry(1), 2);
        for (int none : NO_SUCH) {
            due("13 judge " + none, x.hear(none, 0), NONE);
            due("13 suit " + none, x.hear(0, none), NONE);
        }
        for (int k = 3; k < 24; k++) {
            due("13 " + k, x.hear(0, 0), k % 2 == 0 ? 1 : 0);
        }
        due("13 full", x.hear(0, 0), FULL);
        due("13 none ahead of full", x.hear(0, 2), NONE);
        due("13 still 24", x.count(3), 24);
    }

    private static void entered() {
        OtherwiseCourt x = suits(3, 7);
        due("14 first", x.enter(1, true), 1);
        due("14 second", x.enter(0, false), 2);
        due("14 suit", x.enter(2, true), NONE);
        due("14 suit", x.enter(-2, true), NONE);
        due("15 for", x.entry(0), 3);
        due("15 against", x.entry(1), 0);
        due("15 none", x.entry(2), NONE);
        due("15 none", x.entry(-1), NONE);
        for (int k = 3; k <= 24; k++) {
            due("14 " + k, x.enter(0, true), k);
        }
        due("14 full", x.enter(0, true), FULL);
        due("14 none ahead of full", x.enter(2, true), NONE);
        due("15 last", x.entry(23), 1);
        due("15 beyond", x.entry(24), NONE);
        due("14 none then", x.enter(-1, true), 0);
        due("15 none then", x.entry(0), NONE);
        due("14 again", x.enter(0, false), 1);
        due("14 none then", x.enter(-1, false), 0);
    }

    private static void bestOrders() {
        OtherwiseCourt x = suits(3, 3, 3, 12, 0, 0, 0, 0);
        x.judge(1, 1);
        // one after another for and against: the first and the third of the three alike win, the other ones by v
        due("16 how much", x.best(0, 15, -1), 20 + 30 + 40);
        due("16 the least first", x.best(0, 15, 0), 1);
        due("16 row", x.best(0, 15, 1), 0);
        due("16 row", x.best(0, 15, 2), 2);
        due("16 row", x.best(0, 15, 3), 3);
        due("16 fewer", x.best(0, 15, 4), NOTHING);
        due("16 fewer", x.best(0, 15, 5), NOTHING);
        due("16 none", x.best(0, 0, -1), 0);
        due("16 none", x.best(0, 0, 0), NOTHING);
        due("16 six", x.best(0, 252, 0), 2);
        due("16 six", x.best(0, 252, 5), 7);
        due("16 seven", x.best(0, 254, -1), BAD_FAR);
        due("16 no such suits", x.best(0, 256, -1), BAD_FAR);
        due("16 no such suits", x.best(0, -1, -1), BAD_FAR);
        due("16 k", x.best(0, 15, 6), NONE_FAR);
        due("16 k", x.best(0, 15, -2), NONE_FAR);
        due("16 k ahead of set", x.best(0, -1, 6), NONE_FAR);
        due("16 judge ahead of set", x.best(1, -1, 0), NONE_FAR);
        due("16 changes nothing", x.count(3), 0);
        OtherwiseCourt full = fullBook(1, 0);
        due("16 beyond 24", full.best(0, 1, -1), 10);
    }

    private static void shamming() {
        OtherwiseCourt x = suits(3, 7, 192);
        x.judge(1, 0);
        x.judge(0, 0);
        x.judge(6, 0);
        due("17 one: a like one decided against by v", x.shams(0, 0, -1), 1);
        due("17 which", x.shams(0, 0, 0), 3);
        due("17 fewer", x.shams(0, 0, 1), NOTHING);
        due("17 none but of 0 .. 63", x.shams(0, 2, -1), NOTHING);
        due("17 none", x.shams(0, 2, 0), NOTHING);
        enter(x, 0);
        due("17 as it is", x.shams(0, 0, -1), 0);
        due("17 as it is", x.shams(0, 0, 0), NOTHING);
        due("17 as it is", x.shams(0, 0, 1), NOTHING);
        x.enter(-1, true);
        enter(x, 1);
        // sham 3 is against the entry for suit 0, and the suit then for
        due("17 last", x.shams(0, 0, 0), 3);
        due("17 the earliest stays", x.shams(1, 0, -1), NOTHING);
        enter(x, 1);
        // two for it: two shams against it make as many, the earliest is for: a third would be needed
        due("17 most", x.shams(2, 0, -1), NOTHING);
        x.enter(-1, true);
        enter(x, 0, 1, 1);
        // one more against makes as many, and the earliest is against
        due("17 most, as many", x.shams(2, 0, -1), 1);
        enter(x, 1);
        due("17 two", x.shams(2, 0, -1), 2);
        due("17 two, first", x.shams(2, 0, 0), 3);
        due("17 two, second", x.shams(2, 0, 1), 3);
        due("17 k", x.shams(0, 0, 2), NONE);
        due("17 k", x.shams(0, 0, -2), NONE);
        due("17 judge", x.shams(3, 0, 0), NONE);
        due("17 suit", x.shams(0, 3, 0), NONE);
        due("17 changes nothing", x.count(3), 4);
        OtherwiseCourt edges = suits(255, 64, 0);
        edges.judge(1, 0);
        court(edges, "bar 6");
        due("17 the greatest sham", edges.shams(0, 0, 0), 63);
        court(edges, "bar 1");
        due("17 no sham of 64", edges.shams(0, 1, -1), NOTHING);
        court(edges, "bar 0");
        due("17 the least sham", edges.shams(0, 2, 0), 0);
        OtherwiseCourt full = suits(3);
        full.judge(1, 0);
        for (int k = 0; k < 24; k++) {
            full.enter(0, true);
        }
        due("17 beyond 24", full.shams(0, 0, -1), 1);
    }

    private static void pointing() {
        OtherwiseCourt x = suits(1, 3, 5, 255, 35);
        x.judge(0, 0);
        x.judge(0, 1);
        enter(x, 2);
        due("18 a point that makes it like", x.point(0, 0, 0), 1);
        due("18 none to drop", x.point(0, 0, 1), NOTHING);
        due("18 so as it is", x.point(0, 1, 0), 8);
        due("18 so as it is", x.point(0, 1, 1), 8);
        x.enter(-1, true);
        enter(x, 3);
        due("18 drop", x.point(1, 1, 1), 0);
        due("18 none to add", x.point(1, 1, 0), NOTHING);
        due("18 none to add", x.point(1, 3, 0), NOTHING);
        due("18 drop of two", x.point(1, 4, 1), 0);
        // the entry's points stay as they are: suit 1 with a point more is still like it
        due("18 the book stays", x.point(0, 1, 0), NOTHING);
        due("18 what", x.point(0, 0, 2), NONE);
        due("18 what", x.point(0, 0, -1), NONE);
        due("18 judge", x.point(2, 0, 0), NONE);
        due("18 suit", x.point(0, 5, 0), NONE);
    }

    private static void rivalling() {
        OtherwiseCourt x = suits(3, 3, 3, 3, 48, 48, 0, 0);
        x.judge(1, 0);
        // all alike: the second and the fourth win, which are theirs
        due("19 theirs", x.rival(0, 3, 12, 0), -70);
        due("19 first of ours", x.rival(0, 3, 12, 1), 0);
        // two of ours alike, two of theirs: the second of each wins
        due("19 by turns", x.rival(0, 3, 48, 0), 20 - 60);
        due("19 ours the worthier last", x.rival(0, 3, 48, 1), 0);
        // ours last of all is heard when theirs have passed
        due("19 passed by", x.rival(0, 7, 8, 0), 30 - 40);
        due("19 first", x.rival(0, 7, 8, 1), 0);
        due("19 ours alone", x.rival(0, 3, 0, 0), 20);
        due("19 theirs alone", x.rival(0, 0, 3, 0), -20);
        due("19 theirs alone, first", x.rival(0, 0, 3, 1), NOTHING);
        due("19 nobody", x.rival(0, 0, 0, 0), 0);
        due("19 nobody", x.rival(0, 0, 0, 1), NOTHING);
        due("19 six", x.rival(0, 7, 56, 1), 0);
        due("19 seven", x.rival(0, 7, 120, 0), BAD_FAR);
        due("19 in both", x.rival(0, 3, 2, 0), BAD_FAR);
        due("19 no such", x.rival(0, 256, 0, 0), BAD_FAR);
        due("19 no such", x.rival(0, 0, -8, 0), BAD_FAR);
        due("19 what", x.rival(0, 1, 2, 2), NONE_FAR);
        due("19 what ahead of sets", x.rival(0, 3, 2, -1), NONE_FAR);
        due("19 judge ahead of sets", x.rival(1, 3, 2, 0), NONE_FAR);
        due("19 changes nothing", x.count(3), 0);
        due("19 beyond 24", fullBook(1, 0).rival(0, 1, 0, 0), 10);
    }

    private static void againAndAgain() {
        OtherwiseCourt x = suits(3, 1);
        x.judge(1, 0);
        x.judge(0, 0);
        x.judge(3, 0);
        due("20 by turns", x.again(0, 0, 60), 30);
        due("20 odd", x.again(0, 0, 7), 3);
        due("20 otherwise than the first", x.again(1, 0, 60), 59);
        due("20 never like", x.again(0, 1, 60), 0);
        due("20 not at all", x.again(0, 0, 0), 0);
        due("20 n", x.again(0, 0, 61), BAD);
        due("20 n", x.again(0, 0, -1), BAD);
        due("20 judge ahead of n", x.again(3, 0, 61), NONE);
        due("20 suit ahead of n", x.again(0, 2, 61), NONE);
        due("21 next", x.swing(0, 0), 1);
        due("21 never", x.swing(0, 1), NOTHING);
        due("21 judge", x.swing(3, 0), NONE);
        due("21 suit", x.swing(0, 2), NONE);
        enter(x, 1, 1, 1);
        due("21 earliest", x.swing(1, 0), NOTHING);
        // three for it: against till there are as many, and once more, as the earliest is for
        due("21 most", x.swing(2, 0), 4);
        due("20 most", x.again(2, 0, 6), 1);
        for (int k = 3; k < 24; k++) {
            x.enter(0, true);
        }
        due("21 beyond 24", x.swing(2, 0), 25);
        due("20 beyond 24", x.again(2, 0, 25), 0);
        due("20 beyond 24", x.again(2, 0, 60), 18);
        due("20 last beyond 24", x.again(0, 0, 60), 30);
        due("20 changes nothing", x.count(3), 24);
    }

    private static void unlawfulBooks() {
        OtherwiseCourt x = suits(3, 12);
        x.judge(1, 1);
        due("22 empty", x.unlawful(0), NOTHING);
        due("23 empty", x.wrong(0), 0);
        due("24 empty", x.bars(0, 0), 41);
        due("24 empty", x.bars(0, 1), 0);
        due("24 empty", x.bars(0, 2), 40);
        enter(x, 1, 0, 3, 1);
        due("22 lawful", x.unlawful(0), NOTHING);
        due("23 lawful", x.wrong(0), 0);
        due("24 lawful: two points make it like, and none not", x.bars(0, 0), 2);
        due("24 least", x.bars(0, 1), 1);
        due("24 greatest", x.bars(0, 2), 2);
        enter(x, 0, 0);
        due("22 first", x.unlawful(0), 5);
        due("23 that one", x.wrong(0), 32);
        due("24 none", x.bars(0, 0), 0);
        due("24 none", x.bars(0, 1), NOTHING);
        due("24 none", x.bars(0, 2), NOTHING);
        enter(x, 0, 0);
        due("23 more than one", x.wrong(0), 0);
        x.enter(-1, true);
        enter(x, 0);
        due("22 first of all", x.unlawful(0), 0);
        due("23 first of all", x.wrong(0), 1);
        due("22 judge", x.unlawful(1), NONE);
        due("23 judge", x.wrong(-1), NONE);
        due("24 judge", x.bars(1, 0), NONE);
        due("24 what", x.bars(0, 3), NONE);
        due("24 what", x.bars(0, -1), NONE);
        due("22 changes nothing", x.entry(0), 0);
    }

    private static void barsOfStrict() {
        OtherwiseCourt x = suits(15);
        x.judge(5, 3);
        enter(x, 1, 0);
        due("24 strict: n and v are 4 at most", x.bars(0, 0), 2);
        due("24 strict", x.bars(0, 2), 1);
        due("22 strict: the bar is 5", x.unlawful(0), 1);
        due("23 strict", x.wrong(0), 2);
        OtherwiseCourt full = fullBook(1, 1);
        due("22 full", full.unlawful(0), NOTHING);
        court(full, "bar 40");
        due("22 full", full.unlawful(0), 1);
        due("24 full", full.bars(0, 2), 2);
        OtherwiseCourt heavy = suits(3);
        heavy.judge(1, 1);
        court(heavy, "weigh 20 p<2;bar 99");
        enter(heavy, 1, 1);
        due("24 never like beyond any n", heavy.bars(0, 0), 0);
        due("24 never like but by the bar", heavy.unlawful(0), NOTHING);
    }

    private static void queues() {
        OtherwiseCourt x = suits(3, 7);
        due("25 first", x.queue(1), 1);
        due("25 none", x.queue(2), NONE);
        due("25 none", x.queue(-2), NONE);
        due("25 none then", x.queue(-1), 0);
        due("25 none then", x.count(4), 0);
        for (int k = 1; k <= 8; k++) {
            due("25 " + k, x.queue(k % 2), k);
        }
        due("25 full", x.queue(0), FULL);
        due("25 none ahead of full", x.queue(2), NONE);
        due("25 full still empties", x.queue(-1), 0);
    }

    private static void coins() {
        OtherwiseCourt x = suits(3, 12, 15, 48);
        x.judge(4, 5);
        x.judge(6, 1);
        x.judge(1, 0);
        due("27 empty", x.expects(0, 0), 0);
        due("27 empty", x.expects(0, 1), 1);
        due("26 empty", x.odds(0, 0, 0), OtherwiseCourt.NO);
        x.queue(0);
        x.queue(1);
        x.queue(2);
        due("26 coin", x.odds(0, 0, 0), 1);
        due("26 coin", x.odds(0, 0, 1), 2);
        due("26 torn or both against", x.odds(0, 2, 0), 3);
        due("26 torn or both against", x.odds(0, 2, 1), 4);
        due("27 mean", x.expects(0, 0), 75);
        due("27 mean", x.expects(0, 1), 2);
        due("26 after the last", x.odds(2, 2, 0), 1);
        due("26 after the last", x.odds(2, 2, 1), 2);
        x.row(1, 2, 1);
        due("26 row ahead of a coin", x.odds(1, 1, 0), 1);
        due("26 row ahead of a coin", x.odds(1, 1, 1), 1);
        due("26 never", x.odds(1, 2, 0), 0);
        due("26 never", x.odds(1, 2, 1), 1);
        due("27 sure", x.expects(1, 0), 30);
        due("27 sure", x.expects(1, 1), 1);
        enter(x, 0);
        due("26 from the book", x.odds(2, 0, 0), 1);
        due("26 from the book", x.odds(2, 0, 1), 1);
        due("26 k", x.odds(0, 3, 0), OtherwiseCourt.NO);
        due("26 k", x.odds(0, -1, 0), OtherwiseCourt.NO);
        due("26 part", x.odds(0, 0, 2), OtherwiseCourt.NO);
        due("26 part", x.odds(0, 0, -1), OtherwiseCourt.NO);
        due("26 judge", x.odds(3, 0, 0), OtherwiseCourt.NO);
        due("27 part", x.expects(0, 2), OtherwiseCourt.NO);
        due("27 judge", x.expects(-1, 0), OtherwiseCourt.NO);
        due("26 changes nothing", x.count(3) + x.count(4), 4);
    }

    private static void eightCoins() {
        OtherwiseCourt x = new OtherwiseCourt();
        for (int p = 0; p < 8; p++) {
            x.suit(1 << p, 90 + p);
            x.queue(p);
        }
        x.judge(0, 1);
        for (int k = 0; k < 8; k++) {
            due("26 eight coins", x.odds(0, k, 0) * 10 + x.odds(0, k, 1), 12);
        }
        due("27 eight coins", x.expects(0, 0), 374);
        due("27 eight coins", x.expects(0, 1), 1);
        OtherwiseCourt full = fullBook(1, 1);
        full.queue(0);
        full.queue(0);
        due("26 beyond 24", full.odds(0, 1, 0), 0);
        due("26 beyond 24", full.odds(0, 0, 0), 1);
    }

    private static void acts() {
        OtherwiseCourt x = new OtherwiseCourt();
        x.judge(0, 4);
        x.judge(1, 5);
        x.judge(3, 6);
        x.judge(6, 7);
        acted(x, "28 judge", 0, 0, 10, 10, 1);
        acted(x, "28 judge", 0, 1, 10, 6, 2, 1);
        acted(x, "28 judge", 0, 2, 10, 12, 3, 2, 1);
        acted(x, "28 last", 1, 0, 10, 31, 11, 1);
        acted(x, "28 last", 1, 2, 10, 52, 3, 2, 11, 1);
        acted(x, "28 most", 2, 2, 10, 12 ^ 7, 31, 3, 2, 1);
        acted(x, "28 told", 3, 1, 10, 13, 61, 2, 1);
        acted(x, "28 told", 3, 2, 10, 26 ^ 7, 31, 3, 61, 2, 1);
        acted(x, "28 wraps", 3, 0, Integer.MAX_VALUE, Integer.MIN_VALUE + 2, 1);
        for (int none : NO_SUCH) {
            x.act(0, 2, 1);
            due("28 judge " + none, x.act(none, 0, 5), 0);
            due("28 no trace", x.count(6), 0);
            x.act(0, 2, 1);
            due("28 act " + none, x.act(0, none, 5), 0);
            due("29 no trace", x.trace(0), NONE);
        }
        due("28 act 3", x.act(0, 3, 5), 0);
        OtherwiseCourt y = new OtherwiseCourt();
        y.judge(0, 0);
        y.judge(4, 5);
        y.judge(2, 6);
        y.judge(5, 7);
        acted(y, "28 orderly", 1, 2, 5, (13 - 5) * 2 + 7, 41, 3, 2, 11, 1, 11, 1);
        acted(y, "28 near", 2, 1, 5, -1, 21, 2, 1);
        acted(y, "28 near", 2, 2, 5, -2, 3, 21, 2, 1);
        acted(y, "28 strict", 3, 0, 5, 8 ^ 3, 51, 1);
        acted(y, "28 strict", 3, 1, 5, -((8 ^ 3) - 7), 21, 2, 51, 1);
        due("29 i", y.trace(4), NONE);
        due("29 i", y.trace(-1), NONE);
        due("29 i", y.trace(20), NONE);
    }

    private static void acted(OtherwiseCourt x, String what, int judge, int act, int with, int answer, int... bodies) {
        due(what, x.act(judge, act, with), answer);
        due(what + ", bodies", x.count(6), bodies.length);
        for (int i = 0; i < bodies.length; i++) {
            due("29 " + what + ", body " + i, x.trace(i), bodies[i]);
        }
        due("29 " + what + ", beyond", x.trace(bodies.length), NONE);
    }

    private static void takenAs() {
        int[][] under = {{0}, {0, 1}, {0, 2}, {0, 3}, {0, 1, 4}, {0, 2, 5}, {0, 3, 6}};
        for (int kind = 0; kind < 7; kind++) {
            OtherwiseCourt x = new OtherwiseCourt();
            x.judge(kind, kind + 2);
            int[] answers = {-6, -6, -6, -6, -6, -6, -6};
            for (int k : under[kind]) {
                answers[k] = kind + 2;
            }
            for (int k = 0; k < 7; k++) {
                due("30 " + kind + " as " + k, x.as(0, k), answers[k]);
            }
            due("30 kind", x.as(0, 7), NONE);
            due("30 kind", x.as(0, -1), NONE);
            due("30 judge", x.as(1, 0), NONE);
        }
    }

    private static void images() {
        OtherwiseCourt x = suits(3, 12);
        x.judge(6, 2);
        x.row(0, 1, 2);
        x.day(4);
        court(x, "bar 3");
        feed(x, "bar");
        enter(x, 1, 2);
        x.queue(1);
        due("31 suits", x.image(), 2);
        x.suit(1, 1);
        x.judge(0, 0);
        x.row(0, 1, 1);
        x.day(5);
        feed(x, " 8");
        x.court();
        x.enter(-1, true);
        x.enter(2, true);
        x.queue(0);
        x.act(0, 2, 9);
        int bodies = x.count(6);
        due("32 suits", x.undo(), 2);
        due("32 trace stays", x.count(6), bodies);
        due("32 no third suit", x.of(2, 0), NONE);
        due("32 judges", x.count(1), 1);
        due("32 row", x.row(0, 1, 0), 2);
        due("32 day", x.told(0), 4);
        due("32 court", x.told(1), 3);
        due("32 courts", x.count(2), 1);
        due("32 tape", x.count(5), 3);
        due("32 entries", x.count(3), 2);
        due("32 entry", x.entry(0), 1);
        due("32 entry", x.entry(1), 2);
        due("32 queue", x.count(4), 1);
        due("32 tape's signs", court(x, " 9"), 1);
        due("32 tape's signs", x.told(1), 9);
        due("32 again", x.undo(), 2);
        due("32 again", x.told(1), 3);
        due("32 the image stays", x.row(0, 1, 0), 2);
        x.suit(9, 9);
        due("31 newer", x.image(), 3);
        x.suit(10, 10);
        due("32 newer", x.undo(), 3);
        due("32 newer", x.of(2, 0), 9);
        due("32 none", new OtherwiseCourt().undo(), STATE);
        due("31 empty", new OtherwiseCourt().image(), 0);
    }

    private static void counts() {
        OtherwiseCourt x = suits(3, 12, 1);
        x.judge(6, 2);
        x.judge(0, 2);
        court(x, "bar 3");
        feed(x, "weigh");
        enter(x, 1, 2, 3, 0);
        for (int k = 0; k < 6; k++) {
            x.queue(0);
        }
        x.act(0, 2, 9);
        int[] many = {3, 2, 1, 4, 6, 5, 5};
        for (int what = 0; what < 7; what++) {
            due("33 " + what, x.count(what), many[what]);
        }
        for (int none : NO_SUCH) {
            due("33 " + none, x.count(none), NONE);
        }
        due("33 7", x.count(7), NONE);
    }

    public static void main(String[] args) {
        newObject();
        feeding();
        courts();
        faults();
        days();
        newSuits();
        newJudges();
        weights();
        rows();
        telling();
        scores();
        decided();
        decidedByOthers();
        heard();
        entered();
        bestOrders();
        shamming();
        pointing();
        rivalling();
        againAndAgain();
        unlawfulBooks();
        barsOfStrict();
        queues();
        coins();
        eightCoins();
        acts();
        takenAs();
        images();
        counts();
        System.out.println("promises: " + looked + " answers looked at, " + wrong + " not as due");
        if (wrong != 0) {
            System.exit(1);
        }
    }
}
