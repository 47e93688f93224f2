/** Long runs of calls, the same in every session, on the class and on the model: their answers must be the same. */
public final class ModelTest {
    private static final int RUNS = 600, CALLS = 512;
    private static final int[] EDGES = {
        -2, -1, 0, 1, 2, 3, 4, 5, 6, 7, 8, 9, 10, 17, 18, 20, 24, 27, 28, 40, 60, 61, 63, 64, 99, 100, 127, 128,
        255, 256, -100, 1 << 30, Integer.MAX_VALUE, Integer.MIN_VALUE};

    private static long seed = 20261118;

    /** The tests' own numbers, so that each run of them is the same. */
    private static int below(int n) {
        seed = seed * 6364136223846793005L + 1442695040888963407L;
        return (int) ((seed >>> 33) % n);
    }

    private final OtherwiseCourt court = new OtherwiseCourt();
    private final Model model = new Model();
    private final StringBuilder log = new StringBuilder();
    private int calls = 0;
    private int odd = 0;
    /** Half of the runs keep to one judge's own decisions, so that books come about that are lawful, or nearly. */
    private final boolean steady = below(2) == 0;
    private final int mostPoints = below(3) == 0 ? 16 : 256;

    private void same(String call, long got, long due) {
        calls++;
        log.append("  ").append(call).append(" = ").append(got).append('\n');
        if (got != due && odd == 0) {
            odd++;
            System.out.println(log + "  due is " + due);
        }
    }

    /** Mostly a number that is taken, now and then one that may not be. */
    private static int mostly(int n) {
        return below(40) == 0 ? EDGES[below(EDGES.length)] : below(n);
    }

    private static int someSuit(Model model) {
        return mostly(Math.max(1, model.count(0)));
    }

    private int someJudge() {
        return steady && below(8) != 0 ? 0 : mostly(Math.max(1, model.count(1)));
    }

    private static int someSet(Model model) {
        return mostly(1 << model.count(0));
    }

    private static String someNumber(int n) {
        return below(60) == 0 ? "0" + below(10) : below(60) == 0 ? "123" : Integer.toString(below(n));
    }

    private static String someFactor(int open) {
        int which = below(6);
        if (which == 0 && (open < 5 || below(10) == 0)) {
            return "!" + someFactor(open + 1);
        }
        if (which == 1 && (open < 5 || below(10) == 0)) {
            return "(" + someExpression(open + 1) + ")";
        }
        return "pkvdp".charAt(below(5)) + "" + "<=>".charAt(below(3)) + someNumber(10);
    }

    private static String someExpression(int open) {
        StringBuilder text = new StringBuilder(someFactor(open));
        while (below(4) == 0) {
            text.append("&|".charAt(below(2))).append(someFactor(open));
        }
        return text.toString();
    }

    private static String someClause() {
        return switch (below(3)) {
            case 0 -> "weigh " + someNumber(9) + " " + someExpression(0);
            case 1 -> "clash " + someNumber(5) + " " + someExpression(0);
            default -> "bar " + someNumber(below(2) == 0 ? 12 : 4);
        };
    }

    private static String someCourt() {
        StringBuilder text = new StringBuilder(someClause());
        int more = below(30) == 0 ? 10 : below(4);
        for (int k = 0; k < more; k++) {
            text.append(';').append(more == 10 ? "bar " + below(10) : someClause());
        }
        if (below(4) == 0) {
            int place = below(text.length());
            String signs = "wcb pkvd<=>!()&|;0129xX\u0000\u007f";
            switch (below(3)) {
                case 0 -> text.deleteCharAt(place);
                case 1 -> text.setCharAt(place, signs.charAt(below(signs.length())));
                default -> text.insert(place, signs.charAt(below(signs.length())));
            }
        }
        if (below(20) == 0) {
            text.setLength(below(text.length() + 1));
        }
        return text.toString();
    }

    private void feedCourt() {
        String text = someCourt();
        for (int i = 0; i < text.length() && calls < CALLS - 1; i++) {
            int sign = text.charAt(i);
            same("feed(" + sign + ")", court.feed(sign), model.feed(sign));
        }
        same("court()", court.court(), model.court());
    }

    private void change() {
        int a = mostly(mostPoints), b = mostly(100), j = someJudge(), s = someSuit(model);
        switch (below(16)) {
            case 0, 1 -> same("suit(" + a + ", " + b + ")", court.suit(a, b), model.suit(a, b));
            case 2, 3 -> {
                int kind = mostly(7), v = mostly(10);
                same("judge(" + kind + ", " + v + ")", court.judge(kind, v), model.judge(kind, v));
            }
            case 4 -> {
                int n = mostly(10);
                same("day(" + n + ")", court.day(n), model.day(n));
            }
            case 5, 6 -> {
                int k = mostly(4), n = mostly(3);
                same("row(" + j + ", " + k + ", " + n + ")", court.row(j, k, n), model.row(j, k, n));
            }
            case 7, 8 -> same("hear(" + j + ", " + s + ")", court.hear(j, s), model.hear(j, s));
            case 9 -> {
                if (steady && below(3) == 0) {
                    same("enter(-1, true)", court.enter(-1, true), model.enter(-1, true));
                } else {
                    same("hear(" + j + ", " + s + ")", court.hear(j, s), model.hear(j, s));
                }
            }
            case 10, 11 -> {
                if (steady && below(10) != 0) {
                    return;
                }
                boolean is = below(2) == 0;
                same("enter(" + s + ", " + is + ")", court.enter(s, is), model.enter(s, is));
            }
            case 12, 13 -> same("queue(" + s + ")", court.queue(s), model.queue(s));
            case 14 -> {
                if (below(3) == 0) {
                    int sign = mostly(128);
                    same("feed(" + sign + ")", court.feed(sign), model.feed(sign));
                } else {
                    feedCourt();
                }
            }
            default -> {
                switch (below(8)) {
                    case 0 -> same("image()", court.image(), model.image());
                    case 1 -> same("undo()", court.undo(), model.undo());
                    case 2 -> same("enter(-1, true)", court.enter(-1, true), model.enter(-1, true));
                    case 3 -> same("queue(-1)", court.queue(-1), model.queue(-1));
                    default -> same("hear(" + j + ", " + s + ")", court.hear(j, s), model.hear(j, s));
                }
            }
        }
    }

    private void askSmall() {
        int j = someJudge(), s = someSuit(model), t = someSuit(model);
        switch (below(12)) {
            case 0 -> {
                int what = mostly(2);
                same("of(" + s + ", " + what + ")", court.of(s, what), model.of(s, what));
            }
            case 1, 2 -> {
                int what = mostly(30);
                same("at(" + j + ", " + what + ")", court.at(j, what), model.at(j, what));
            }
            case 3 -> {
                int what = mostly(2);
                same("told(" + what + ")", court.told(what), model.told(what));
            }
            case 4 -> same("score(" + j + ", " + s + ", " + t + ")", court.score(j, s, t), model.score(j, s, t));
            case 5, 6 -> {
                int what = mostly(3);
                same("decides(" + j + ", " + s + ", " + what + ")", court.decides(j, s, what),
                    model.decides(j, s, what));
            }
            case 7 -> {
                int k = mostly(24);
                same("entry(" + k + ")", court.entry(k), model.entry(k));
            }
            case 8 -> {
                int act = mostly(3), x = below(2) == 0 ? below(100) - 50 : EDGES[below(EDGES.length)];
                same("act(" + j + ", " + act + ", " + x + ")", court.act(j, act, x), model.act(j, act, x));
            }
            case 9 -> {
                int i = mostly(8);
                same("trace(" + i + ")", court.trace(i), model.trace(i));
            }
            case 10 -> {
                int k = mostly(7);
                same("as(" + j + ", " + k + ")", court.as(j, k), model.as(j, k));
            }
            default -> {
                int what = mostly(7);
                same("count(" + what + ")", court.count(what), model.count(what));
            }
        }
    }

    private void askGreat() {
        int j = someJudge(), s = someSuit(model);
        switch (below(11)) {
            case 0 -> {
                int set = someSet(model), k = mostly(7) - 1;
                if (Integer.bitCount(set) < 6 || below(4) == 0) {
                    same("best(" + j + ", " + set + ", " + k + ")", court.best(j, set, k), model.best(j, set, k));
                }
            }
            case 1 -> {
                int k = mostly(3) - 1;
                same("shams(" + j + ", " + s + ", " + k + ")", court.shams(j, s, k), model.shams(j, s, k));
            }
            case 2 -> {
                int what = mostly(2);
                same("point(" + j + ", " + s + ", " + what + ")", court.point(j, s, what), model.point(j, s, what));
            }
            case 3 -> {
                int ours = someSet(model), theirs = below(6) == 0 ? someSet(model) : someSet(model) & ~ours;
                int what = mostly(2);
                if (Integer.bitCount(ours | theirs) < 6 || below(4) == 0) {
                    same("rival(" + j + ", " + ours + ", " + theirs + ", " + what + ")",
                        court.rival(j, ours, theirs, what), model.rival(j, ours, theirs, what));
                }
            }
            case 4 -> {
                int n = mostly(61);
                same("again(" + j + ", " + s + ", " + n + ")", court.again(j, s, n), model.again(j, s, n));
            }
            case 5 -> same("swing(" + j + ", " + s + ")", court.swing(j, s), model.swing(j, s));
            case 6 -> same("unlawful(" + j + ")", court.unlawful(j), model.unlawful(j));
            case 7 -> same("wrong(" + j + ")", court.wrong(j), model.wrong(j));
            case 8 -> {
                int what = mostly(3);
                same("bars(" + j + ", " + what + ")", court.bars(j, what), model.bars(j, what));
            }
            case 9 -> {
                int k = mostly(Math.max(1, model.count(4))), part = mostly(2);
                same("odds(" + j + ", " + k + ", " + part + ")", court.odds(j, k, part), model.odds(j, k, part));
            }
            default -> {
                int part = mostly(2);
                same("expects(" + j + ", " + part + ")", court.expects(j, part), model.expects(j, part));
            }
        }
    }

    private int run() {
        for (int turn = 0; turn < 4 * CALLS && calls < CALLS; turn++) {
            int which = below(10);
            if (which < 4) {
                change();
            } else if (which < 7) {
                askSmall();
            } else {
                askGreat();
            }
        }
        return odd;
    }

    public static void main(String[] args) {
        int wrong = 0;
        for (int run = 0; run < RUNS && wrong < 3; run++) {
            ModelTest test = new ModelTest();
            int odd = test.run();
            if (odd > 0) {
                System.out.println("run " + run + " (see above)");
            }
            wrong += odd;
        }
        System.out.println(wrong == 0 ? "model: all answers are alike" : "model: " + wrong + " runs are not alike");
        if (wrong != 0) {
            System.exit(1);
        }
    }
}
