import java.math.BigInteger;
import java.util.ArrayList;
import java.util.List;
import java.util.regex.Matcher;
import java.util.regex.Pattern;

/** The document told once more, as slowly and plainly as can be, for ModelTest to hold the class against. */
final class Model {
    static final int NONE = -1, BAD = -2, STATE = -3, FULL = -4;
    static final long NO = Long.MIN_VALUE;

    record Suit(int points, int worth) { }

    record Entry(int suit, int points, boolean is) {
        Entry turned() { return new Entry(suit, points, !is); }
    }

    record Found(boolean is, int by, int likes, boolean coin) { }

    /** The kinds as classes, so that super and the dispatch of the acts are Java's own. */
    static class Judge {
        int i, v, kind;
        int[] row = new int[4];
        List<Integer> ran;
        int hears(int x) { ran.add(1); return x + i; }
        int weighs(int x) { ran.add(2); return hears(x) - v; }
        int says(int x) { ran.add(3); return weighs(x) * 2; }
    }

    static class Last extends Judge {
        @Override int hears(int x) { ran.add(11); return super.hears(x * 3); }
    }

    static class Near extends Judge {
        @Override int weighs(int x) { ran.add(21); return -super.weighs(x); }
    }

    static class Most extends Judge {
        @Override int says(int x) { ran.add(31); return super.says(x) ^ 7; }
    }

    static class Orderly extends Last {
        @Override int says(int x) { ran.add(41); return super.says(x - 1) + hears(2); }
    }

    static class Strict extends Near {
        @Override int hears(int x) { ran.add(51); return super.hears(x) ^ i; }
    }

    static class Told extends Most {
        @Override int weighs(int x) { ran.add(61); return super.weighs(x) + v; }
    }

    static Judge newJudge(int kind) {
        Judge judge = switch (kind) {
            case 1 -> new Last();
            case 2 -> new Near();
            case 3 -> new Most();
            case 4 -> new Orderly();
            case 5 -> new Strict();
            case 6 -> new Told();
            default -> new Judge();
        };
        judge.kind = kind;
        return judge;
    }

    private static final Class<?>[] KINDS =
        {Judge.class, Last.class, Near.class, Most.class, Orderly.class, Strict.class, Told.class};

    // ---- what there is

    private int day = 0;
    private List<Suit> suits = new ArrayList<>();
    private List<Judge> judges = new ArrayList<>();
    private List<String> courts = new ArrayList<>();
    private List<Entry> book = new ArrayList<>();
    private List<Integer> queue = new ArrayList<>();
    private String tape = "";
    private List<Integer> trace = new ArrayList<>();
    private Model kept = null;

    private static Judge copyOf(Judge judge) {
        Judge copy = newJudge(judge.kind);
        copy.i = judge.i;
        copy.v = judge.v;
        copy.row = judge.row.clone();
        return copy;
    }

    private void become(Model other) {
        day = other.day;
        suits = new ArrayList<>(other.suits);
        judges = new ArrayList<>();
        for (Judge judge : other.judges) {
            judges.add(copyOf(judge));
        }
        courts = new ArrayList<>(other.courts);
        book = new ArrayList<>(other.book);
        queue = new ArrayList<>(other.queue);
        tape = other.tape;
    }

    // ---- courts

    private static final Pattern COURT = Pattern.compile(courtPattern());

    /** Where the language stops being one that some court begins with. */
    private static String courtPattern() {
        String n = "(?:0|[1-9][0-9]?)";
        String test = "[pkvd][<=>]" + n;
        String factor = "(?:" + test + ")";
        for (int open = 0; open < 5; open++) {
            String term = factor + "(?:&" + factor + ")*";
            String expression = term + "(?:\\|" + term + ")*";
            factor = "(?:!" + factor + "|\\(" + expression + "\\)|" + test + ")";
        }
        String term = factor + "(?:&" + factor + ")*";
        String clause = "(?:(?:weigh|clash) " + n + " " + term + "(?:\\|" + term + ")*|bar " + n + ")";
        return clause + "(?:;" + clause + "){0,9}";
    }

    static int fault(String text) {
        for (int i = 0; i <= text.length(); i++) {
            Matcher matcher = COURT.matcher(text.substring(0, i));
            if (!matcher.matches() && !matcher.hitEnd()) {
                return i - 1;
            }
        }
        return COURT.matcher(text).matches() ? -1 : text.length();
    }

    private String law() {
        return courts.isEmpty() ? "" : courts.get(courts.size() - 1);
    }

    private int bar() {
        int bar = 2;
        for (String clause : law().split(";")) {
            if (clause.startsWith("bar ")) {
                bar = Integer.parseInt(clause.substring(4));
            }
        }
        return bar;
    }

    private int sumOf(String verb, Judge judge, int point) {
        int sum = 0;
        for (String clause : law().split(";")) {
            if (clause.startsWith(verb)) {
                String[] parts = clause.split(" ");
                if (new Holds(parts[2], point, judge.kind, judge.v, day).either()) {
                    sum += Integer.parseInt(parts[1]);
                }
            }
        }
        return sum;
    }

    private static final class Holds {
        private final String text;
        private final int p, k, v, d;
        private int at = 0;

        Holds(String text, int p, int k, int v, int d) {
            this.text = text;
            this.p = p;
            this.k = k;
            this.v = v;
            this.d = d;
        }

        private boolean take(char sign) {
            boolean is = at < text.length() && text.charAt(at) == sign;
            at += is ? 1 : 0;
            return is;
        }

        boolean either() {
            boolean left = both();
            return take('|') ? either() | left : left;
        }

        private boolean both() {
            boolean left = single();
            return take('&') ? both() & left : left;
        }

        private boolean single() {
            if (take('!')) {
                return !single();
            }
            if (take('(')) {
                boolean is = either();
                at++;
                return is;
            }
            char of = text.charAt(at);
            char how = text.charAt(at + 1);
            int from = at + 2;
            at = from;
            while (at < text.length() && Character.isDigit(text.charAt(at))) {
                at++;
            }
            int n = Integer.parseInt(text.substring(from, at));
            int value = switch (of) {
                case 'p' -> p;
                case 'k' -> k;
                case 'v' -> v;
                default -> d;
            };
            return how == '<' ? value < n : how == '=' ? value == n : value > n;
        }
    }

    // ---- deciding

    private int weight(Judge judge, int point) {
        return 1 + sumOf("weigh", judge, point);
    }

    private int clash(Judge judge, int point) {
        return sumOf("clash", judge, point);
    }

    /** Weights and clashes are kept for one call: the texts are slow to read. */
    private int[] weights, clashes;

    private Judge call(int judge) {
        Judge called = judges.get(judge);
        weights = new int[8];
        clashes = new int[8];
        for (int p = 0; p < 8; p++) {
            weights[p] = weight(called, p);
            clashes[p] = clash(called, p);
        }
        return called;
    }

    private int scoreOf(int one, int other) {
        int score = 0;
        for (int p = 0; p < 8; p++) {
            boolean first = (one >> p) % 2 == 1;
            boolean second = (other >> p) % 2 == 1;
            if (first && second) {
                score += weights[p];
            } else if (first || second) {
                score -= clashes[p];
            }
        }
        return score;
    }

    private Found decide(Judge judge, int points, List<Entry> entries, int bar) {
        int needed = judge.kind == 5 ? bar + judge.v : bar;
        List<Integer> likes = new ArrayList<>();
        int pro = 0;
        for (int k = 0; k < entries.size(); k++) {
            if (scoreOf(entries.get(k).points(), points) >= needed) {
                likes.add(k);
                pro += entries.get(k).is() ? 1 : 0;
            }
        }
        int many = likes.size();
        int con = many - pro;
        int tells = judge.kind == 6 ? judge.row[Integer.bitCount(points) % 4] : 0;
        if (tells != 0) {
            return new Found(tells == 1, -5, many, false);
        }
        if (many == 0) {
            return new Found(judge.v % 2 == 1, -5, 0, true);
        }
        int by;
        switch (judge.kind) {
            case 0:
                by = likes.get(0);
                break;
            case 1:
                by = likes.get(many - 1);
                break;
            case 4:
                if (pro > 0 && con > 0) {
                    return new Found(judge.v > 4, -5, many, false);
                }
                by = likes.get(many - 1);
                break;
            case 2:
            case 5:
                int most = Integer.MIN_VALUE;
                for (int k : likes) {
                    most = Math.max(most, scoreOf(entries.get(k).points(), points));
                }
                by = -1;
                for (int k : likes) {
                    by = scoreOf(entries.get(k).points(), points) == most ? k : by;
                }
                break;
            default:
                boolean is = pro == con ? !entries.get(likes.get(0)).is() : con > pro;
                return new Found(is, -5, many, false);
        }
        return new Found(!entries.get(by).is(), by, many, false);
    }

    private boolean wins(Judge judge, int points, List<Entry> entries) {
        return decide(judge, points, entries, bar()).is();
    }

    private static List<Entry> with(List<Entry> entries, int suit, int points, boolean is) {
        List<Entry> more = new ArrayList<>(entries);
        more.add(new Entry(suit, points, is));
        return more;
    }

    private boolean isSuit(int suit) {
        return suit >= 0 && suit < suits.size();
    }

    private boolean isJudge(int judge) {
        return judge >= 0 && judge < judges.size();
    }

    private List<Integer> members(int set) {
        List<Integer> members = new ArrayList<>();
        for (int s = 0; s < 32; s++) {
            if ((set >>> s & 1) == 1) {
                members.add(s);
            }
        }
        return members;
    }

    private boolean areSuits(int set) {
        for (int s : members(set)) {
            if (!isSuit(s)) {
                return false;
            }
        }
        return true;
    }

    // ---- the calls

    int feed(int sign) {
        if (sign < 0 || sign > 127) return BAD;
        if (tape.length() == 100) return FULL;
        tape += (char) sign;
        return tape.length();
    }

    int court() {
        if (courts.size() == 5) return FULL;
        String text = tape;
        tape = "";
        int fault = fault(text);
        if (fault >= 0) return -10 - fault;
        courts.add(text);
        return courts.size() - 1;
    }

    int day(int n) {
        if (n < 0 || n > 9) return BAD;
        int was = day;
        day = n;
        return was;
    }

    int suit(int points, int worth) {
        if (points < 0 || points > 255 || worth < 0 || worth > 99) return BAD;
        if (suits.size() == 8) return FULL;
        suits.add(new Suit(points, worth));
        return suits.size() - 1;
    }

    int of(int suit, int what) {
        if (!isSuit(suit)) return NONE;
        return what == 0 ? suits.get(suit).points() : what == 1 ? suits.get(suit).worth() : NONE;
    }

    int judge(int kind, int v) {
        if (kind < 0 || kind > 6) return NONE;
        if (v < 0 || v > 9) return BAD;
        if (judges.size() == 4) return FULL;
        Judge judge = newJudge(kind);
        judge.i = judges.size();
        judge.v = v;
        judges.add(judge);
        return judge.i;
    }

    int at(int judge, int what) {
        if (!isJudge(judge)) return NONE;
        Judge called = judges.get(judge);
        if (what == 0) return called.kind;
        if (what == 1) return called.v;
        if (what >= 10 && what <= 17) return weight(called, what - 10);
        if (what >= 20 && what <= 27) return clash(called, what - 20);
        return NONE;
    }

    int row(int judge, int k, int n) {
        if (!isJudge(judge) || k < 0 || k > 3) return NONE;
        if (n < 0 || n > 2) return BAD;
        Judge called = judges.get(judge);
        if (called.kind != 6) return STATE;
        int was = called.row[k];
        called.row[k] = n;
        return was;
    }

    int told(int what) {
        return what == 0 ? day : what == 1 ? bar() : NONE;
    }

    int score(int judge, int one, int other) {
        if (!isJudge(judge) || !isSuit(one) || !isSuit(other)) return -100001;
        call(judge);
        return scoreOf(suits.get(one).points(), suits.get(other).points());
    }

    int decides(int judge, int suit, int what) {
        if (!isJudge(judge) || !isSuit(suit) || what < 0 || what > 2) return NONE;
        Found found = decide(call(judge), suits.get(suit).points(), book, bar());
        return what == 0 ? (found.is() ? 1 : 0) : what == 1 ? found.by() : found.likes();
    }

    int hear(int judge, int suit) {
        if (!isJudge(judge) || !isSuit(suit)) return NONE;
        if (book.size() == 24) return FULL;
        int points = suits.get(suit).points();
        boolean is = wins(call(judge), points, book);
        book.add(new Entry(suit, points, is));
        return is ? 1 : 0;
    }

    int enter(int suit, boolean is) {
        if (suit == -1) {
            book.clear();
            return 0;
        }
        if (!isSuit(suit)) return NONE;
        if (book.size() == 24) return FULL;
        book.add(new Entry(suit, suits.get(suit).points(), is));
        return book.size();
    }

    int entry(int k) {
        if (k < 0 || k >= book.size()) return NONE;
        return book.get(k).suit() * 2 + (book.get(k).is() ? 1 : 0);
    }

    private int bestWorth;
    private List<Integer> bestOrder;

    private void orders(Judge judge, List<Integer> done, List<Integer> left) {
        if (left.isEmpty()) {
            List<Entry> entries = book;
            int worth = 0;
            for (int s : done) {
                boolean is = wins(judge, suits.get(s).points(), entries);
                entries = with(entries, s, suits.get(s).points(), is);
                worth += is ? suits.get(s).worth() : 0;
            }
            boolean first = bestOrder == null || worth > bestWorth;
            if (!first && worth == bestWorth) {
                first = done.toString().compareTo(bestOrder.toString()) < 0;
            }
            if (first) {
                bestWorth = worth;
                bestOrder = new ArrayList<>(done);
            }
            return;
        }
        // from the greatest on, so that the first row has to be looked for
        for (int i = left.size() - 1; i >= 0; i--) {
            List<Integer> more = new ArrayList<>(done);
            more.add(left.get(i));
            List<Integer> fewer = new ArrayList<>(left);
            fewer.remove(i);
            orders(judge, more, fewer);
        }
    }

    int best(int judge, int set, int k) {
        if (!isJudge(judge) || k < -1 || k > 5) return -100001;
        if (!areSuits(set) || members(set).size() > 6) return -100002;
        bestOrder = null;
        orders(call(judge), new ArrayList<>(), members(set));
        return k == -1 ? bestWorth : k < bestOrder.size() ? bestOrder.get(k) : -5;
    }

    private List<Integer> shamsFor(Judge judge, int points) {
        if (wins(judge, points, book)) {
            return List.of();
        }
        for (int a = 0; a < 64; a++) {
            if (wins(judge, points, with(book, -1, a, wins(judge, a, book)))) {
                return List.of(a);
            }
        }
        for (int a = 0; a < 64; a++) {
            List<Entry> one = with(book, -1, a, wins(judge, a, book));
            for (int b = 0; b < 64; b++) {
                if (wins(judge, points, with(one, -1, b, wins(judge, b, one)))) {
                    return List.of(a, b);
                }
            }
        }
        return null;
    }

    int shams(int judge, int suit, int k) {
        if (!isJudge(judge) || !isSuit(suit) || k < -1 || k > 1) return NONE;
        List<Integer> found = shamsFor(call(judge), suits.get(suit).points());
        if (found == null) return -5;
        return k == -1 ? found.size() : k < found.size() ? found.get(k) : -5;
    }

    int point(int judge, int suit, int what) {
        if (!isJudge(judge) || !isSuit(suit) || what < 0 || what > 1) return NONE;
        Judge called = call(judge);
        int points = suits.get(suit).points();
        if (wins(called, points, book)) return 8;
        for (int p = 0; p < 8; p++) {
            int other = what == 0 ? points | 1 << p : points & ~(1 << p);
            if (other != points && wins(called, other, book)) return p;
        }
        return -5;
    }

    private int[] played(Judge judge, List<Integer> ours, List<Integer> theirs, boolean us, List<Entry> entries) {
        if (ours.isEmpty() && theirs.isEmpty()) {
            return new int[] {0, -5};
        }
        List<Integer> mine = us ? ours : theirs;
        if (mine.isEmpty()) {
            return played(judge, ours, theirs, !us, entries);
        }
        int[] found = null;
        for (int i = 0; i < mine.size(); i++) {
            int s = mine.get(i);
            List<Integer> rest = new ArrayList<>(mine);
            rest.remove(i);
            boolean is = wins(judge, suits.get(s).points(), entries);
            int worth = is ? suits.get(s).worth() : 0;
            List<Entry> more = with(entries, s, suits.get(s).points(), is);
            int much = us ? worth + played(judge, rest, theirs, false, more)[0]
                : played(judge, ours, rest, true, more)[0] - worth;
            if (found == null || (us ? much > found[0] : much < found[0])) {
                found = new int[] {much, s};
            }
        }
        return found;
    }

    int rival(int judge, int ours, int theirs, int what) {
        if (!isJudge(judge) || what < 0 || what > 1) return -100001;
        if (!areSuits(ours) || !areSuits(theirs) || (ours & theirs) != 0
            || members(ours).size() + members(theirs).size() > 6) return -100002;
        int[] found = played(call(judge), members(ours), members(theirs), true, book);
        return what == 0 ? found[0] : ours == 0 ? -5 : found[1];
    }

    private List<Boolean> heardAgain(Judge judge, int points, int n) {
        List<Boolean> found = new ArrayList<>();
        List<Entry> entries = new ArrayList<>(book);
        for (int k = 0; k < n; k++) {
            boolean is = wins(judge, points, entries);
            found.add(is);
            entries.add(new Entry(-1, points, is));
        }
        return found;
    }

    int again(int judge, int suit, int n) {
        if (!isJudge(judge) || !isSuit(suit)) return NONE;
        if (n < 0 || n > 60) return BAD;
        int won = 0;
        for (boolean is : heardAgain(call(judge), suits.get(suit).points(), n)) {
            won += is ? 1 : 0;
        }
        return won;
    }

    int swing(int judge, int suit) {
        if (!isJudge(judge) || !isSuit(suit)) return NONE;
        List<Boolean> found = heardAgain(call(judge), suits.get(suit).points(), 61);
        return found.contains(!found.get(0)) ? found.indexOf(!found.get(0)) : -5;
    }

    private int firstUnlawful(Judge judge, List<Entry> entries, int bar) {
        for (int k = 0; k < entries.size(); k++) {
            if (decide(judge, entries.get(k).points(), entries.subList(0, k), bar).is() != entries.get(k).is()) {
                return k;
            }
        }
        return -5;
    }

    int unlawful(int judge) {
        if (!isJudge(judge)) return NONE;
        return firstUnlawful(call(judge), book, bar());
    }

    int wrong(int judge) {
        if (!isJudge(judge)) return NONE;
        Judge called = call(judge);
        int bits = 0;
        for (int k = 0; k < book.size(); k++) {
            List<Entry> other = new ArrayList<>(book);
            other.set(k, book.get(k).turned());
            bits += firstUnlawful(called, other, bar()) == -5 ? 1 << k : 0;
        }
        return bits;
    }

    int bars(int judge, int what) {
        if (!isJudge(judge) || what < 0 || what > 2) return NONE;
        Judge called = call(judge);
        List<Integer> found = new ArrayList<>();
        for (int n = 0; n <= 40; n++) {
            if (firstUnlawful(called, book, n) == -5) {
                found.add(n);
            }
        }
        if (what == 0) return found.size();
        return found.isEmpty() ? -5 : found.get(what == 1 ? 0 : found.size() - 1);
    }

    int queue(int suit) {
        if (suit == -1) {
            queue.clear();
            return 0;
        }
        if (!isSuit(suit)) return NONE;
        if (queue.size() == 8) return FULL;
        queue.add(suit);
        return queue.size();
    }

    /** Of the queue's k-th on: the likelihood that the one asked for wins (-1: the mean of the worth). */
    private BigInteger[] mean(Judge judge, int k, int asked, List<Entry> entries) {
        if (k == queue.size()) {
            return new BigInteger[] {BigInteger.ZERO, BigInteger.ONE};
        }
        int s = queue.get(k);
        int points = suits.get(s).points();
        Found found = decide(judge, points, entries, bar());
        BigInteger[] sum = {BigInteger.ZERO, BigInteger.ONE};
        for (boolean is : found.coin() ? new boolean[] {false, true} : new boolean[] {found.is()}) {
            BigInteger[] rest = mean(judge, k + 1, asked, with(entries, s, points, is));
            int gain = !is ? 0 : asked == -1 ? suits.get(s).worth() : asked == k ? 1 : 0;
            BigInteger[] all = plus(rest, new BigInteger[] {BigInteger.valueOf(gain), BigInteger.ONE});
            sum = plus(sum, new BigInteger[] {all[0], all[1].multiply(BigInteger.valueOf(found.coin() ? 2 : 1))});
        }
        return sum;
    }

    private static BigInteger[] plus(BigInteger[] one, BigInteger[] other) {
        BigInteger above = one[0].multiply(other[1]).add(other[0].multiply(one[1]));
        BigInteger below = one[1].multiply(other[1]);
        BigInteger both = above.gcd(below);
        return new BigInteger[] {above.divide(both), below.divide(both)};
    }

    long odds(int judge, int k, int part) {
        if (!isJudge(judge) || k < 0 || k >= queue.size() || part < 0 || part > 1) return NO;
        return mean(call(judge), 0, k, book)[part].longValueExact();
    }

    long expects(int judge, int part) {
        if (!isJudge(judge) || part < 0 || part > 1) return NO;
        return mean(call(judge), 0, -1, book)[part].longValueExact();
    }

    int act(int judge, int act, int x) {
        trace = new ArrayList<>();
        if (!isJudge(judge)) return 0;
        Judge called = judges.get(judge);
        called.ran = trace;
        return switch (act) {
            case 0 -> called.hears(x);
            case 1 -> called.weighs(x);
            case 2 -> called.says(x);
            default -> 0;
        };
    }

    int trace(int i) {
        return i < 0 || i >= trace.size() || i >= 20 ? NONE : trace.get(i);
    }

    int as(int judge, int k) {
        if (!isJudge(judge) || k < 0 || k > 6) return NONE;
        return KINDS[k].isInstance(judges.get(judge)) ? judges.get(judge).v : -6;
    }

    int image() {
        kept = new Model();
        kept.become(this);
        return suits.size();
    }

    int undo() {
        if (kept == null) return STATE;
        become(kept);
        return suits.size();
    }

    int count(int what) {
        return switch (what) {
            case 0 -> suits.size();
            case 1 -> judges.size();
            case 2 -> courts.size();
            case 3 -> book.size();
            case 4 -> queue.size();
            case 5 -> tape.length();
            case 6 -> trace.size();
            default -> NONE;
        };
    }
}
