import java.util.ArrayList;
import java.util.HashSet;
import java.util.List;
import java.util.Set;
import java.util.regex.Matcher;
import java.util.regex.Pattern;

/**
 * The document once more, told as slowly and literally as it can be: every step of every turn,
 * every order of taking apart. The class is compared with it by random runs of calls.
 */
final class PlainModel {
    private static final String KINDS = "pbltodcs";
    private static final String SHORT = ",\\d{1,2}";
    private static final Pattern TEXT = Pattern.compile(
        "(?:[fkr]\\d{1,3};|q[pltodcs]\\d\\d,\\d" + SHORT + SHORT + ";"
            + "|qb\\d\\d,\\d" + SHORT + SHORT + SHORT + "/\\d{1,2};)+");

    /** A fault's numbers, by their places in its row. */
    private static final int KIND = 0, PLACE = 1, LOAD = 2, WEIGHT = 3, MINUTES = 4, A = 5, B = 6;

    private static final class State {
        int front = 44;
        int links = 108;
        List<Integer> cogs = new ArrayList<>();
        List<int[]> faults = new ArrayList<>();
        List<Long> at = new ArrayList<>();
        List<Integer> toldDown = new ArrayList<>();
        int turns = 0;
        int sinceOil = -9;
        int[] settings = {0, 0, 0, 30};
        List<int[]> ride = new ArrayList<>();

        State copy() {
            State s = new State();
            s.front = front;
            s.links = links;
            s.cogs = new ArrayList<>(cogs);
            s.faults = new ArrayList<>(faults);
            s.at = new ArrayList<>(at);
            s.toldDown = new ArrayList<>(toldDown);
            s.turns = turns;
            s.sinceOil = sinceOil;
            s.settings = settings.clone();
            s.ride = new ArrayList<>(ride);
            return s;
        }
    }

    private State s = new State();
    private State kept = null;
    private String tape = "";
    private List<Integer> row = new ArrayList<>();
    private final int[] refused = new int[7];

    private int no(int number) {
        refused[-number]++;
        return number;
    }

    private boolean noFault(int f) { return f < 0 || f >= s.faults.size(); }
    private boolean noGear(int g) { return g < 0 || g >= s.cogs.size(); }
    private boolean noAct(int a) { return a < 0 || a > 5; }

    int feed(int n, long bytes) {
        if (n < 1) return no(-4);
        if (n > 8) return no(-6);
        if (tape.length() + n > 64) return no(-6);
        for (int i = 0; i < n; i++) tape += (char) (bytes >> 8 * i & 0xff);
        return tape.length();
    }

    int bicycle() {
        String text = tape;
        tape = "";
        for (int end = 1; end <= text.length(); end++) {
            Matcher m = TEXT.matcher(text.substring(0, end));
            if (!m.matches() && !m.hitEnd()) return -1000 - (end - 1);
        }
        if (!TEXT.matcher(text).matches()) return -1000 - text.length();
        State after = s.copy();
        int place = 0;
        int statements = 0;
        for (String statement : text.split(";")) {
            if (!take(after, statement)) return -2000 - place;
            place += statement.length() + 1;
            statements++;
        }
        s = after;
        return statements;
    }

    private static boolean take(State to, String statement) {
        String[] words = statement.substring(statement.charAt(0) == 'q' ? 2 : 1).split("[,/]");
        int[] v = new int[words.length];
        for (int i = 0; i < words.length; i++) v[i] = Integer.parseInt(words[i]);
        switch (statement.charAt(0)) {
            case 'f': to.front = v[0]; return in(v[0], 20, 60);
            case 'k': to.links = v[0]; return in(v[0], 60, 140);
            case 'r': to.cogs.add(v[0]); return in(v[0], 10, 40) && to.cogs.size() <= 5;
            default:
        }
        int[] fault = new int[7];
        fault[KIND] = KINDS.indexOf(statement.charAt(1));
        System.arraycopy(v, 0, fault, 1, v.length);
        to.faults.add(fault);
        to.at.add(0L);
        to.toldDown.add(1);
        boolean ball = fault[KIND] != 1 || in(fault[A], 1, 20) && in(fault[B], 1, 20);
        return in(fault[WEIGHT], 1, 99) && in(fault[MINUTES], 1, 99) && ball && to.faults.size() <= 8;
    }

    private static boolean in(int v, int least, int most) { return least <= v && v <= most; }

    int part(int what) {
        if (what == 0) return s.front;
        if (what == 1) return s.links;
        if (what < 10) return no(-2);
        if (what - 10 >= s.cogs.size()) return no(-1);
        return s.cogs.get(what - 10);
    }

    int fault(int fault, int what) {
        if (noFault(fault)) return no(-1);
        if (!in(what, 0, 6)) return no(-2);
        if (what == 5) return (int) (long) s.at.get(fault);
        if (what == 6) return limit(s, fault);
        return s.faults.get(fault)[what];
    }

    private static int limit(State st, int f) {
        int limit = st.faults.get(f)[LOAD];
        if (kind(st, f) != 'c') return limit;
        for (int t = 20; t <= st.turns; t += 20) limit--;
        return Math.max(limit, 0);
    }

    private static char kind(State st, int f) { return KINDS.charAt(st.faults.get(f)[KIND]); }

    private static int up(State st, int f) {
        char k = kind(st, f);
        return k == 'b' ? st.faults.get(f)[A] : k == 'l' || k == 't' ? st.front : 1;
    }

    private static int down(State st, int f, int gear) {
        char k = kind(st, f);
        return k == 'b' ? st.faults.get(f)[B] : k == 'l' ? st.links : k == 't' ? st.cogs.get(gear) : 1;
    }

    int rounds(int fault, int gear, int part) {
        if (noFault(fault) || noGear(gear)) return no(-1);
        if (!in(part, 0, 1)) return no(-2);
        return part == 0 ? up(s, fault) : down(s, fault, gear);
    }

    private static int loadOf(State st, int act, int step) {
        boolean left = in(step, 15, 34);
        boolean right = in(step, 65, 84);
        int more = st.settings[0];
        if (act == 0) return 2 + (left || right ? 4 + more : 0);
        if (act == 1) return 1 + (left || right ? 7 + more : 0);
        if (act == 2) return loadOf(st, 0, step) - 1;
        if (act == 3) return 2 + (left ? 4 + more : 0);
        return 0;
    }

    int load(int act, int step) {
        if (noAct(act)) return no(-1);
        if (step < 0) return no(-4);
        if (step > 99) return no(-6);
        return loadOf(s, act, step);
    }

    int set(int what, int v) {
        if (!in(what, 0, 3)) return no(-2);
        if (v < 0) return no(-4);
        if (v > new int[] {9, 1, 100, 99}[what]) return no(-6);
        int was = s.settings[what];
        s.settings[what] = v;
        return was;
    }

    int oil() {
        s.sinceOil = 0;
        int dry = 0;
        for (int f = 0; f < s.faults.size(); f++) if (kind(s, f) == 'd') dry++;
        return dry;
    }

    int stage(int act, int gear, int turns) {
        if (noAct(act) || noGear(gear)) return no(-1);
        if (turns < 1) return no(-4);
        if (turns > 60 || s.ride.size() == 8) return no(-6);
        s.ride.add(new int[] {act, gear, turns});
        return s.ride.size();
    }

    int stageOf(int i, int what) {
        if (!in(i, 0, s.ride.size() - 1)) return no(-1);
        if (!in(what, 0, 2)) return no(-2);
        return s.ride.get(i)[what];
    }

    int drop() {
        int had = s.ride.size();
        s.ride.clear();
        return had;
    }

    /** Rides for real on the state it is given; answers each click as a step and a fault. */
    private static List<int[]> play(State st, List<int[]> ride) {
        List<int[]> clicks = new ArrayList<>();
        int step = 0;
        for (int[] stage : ride) {
            begin(st, stage[1]);
            for (int turn = 0; turn < stage[2]; turn++) {
                for (int i = 0; i < 100; i++) {
                    for (int f = 0; f < st.faults.size(); f++) {
                        if (clicksIn(st, f, stage[0], stage[1], i)) clicks.add(new int[] {step, f});
                    }
                    step++;
                }
                st.turns++;
                if (st.sinceOil >= 0) st.sinceOil++;
            }
        }
        return clicks;
    }

    private static void begin(State st, int gear) {
        for (int f = 0; f < st.faults.size(); f++) {
            int down = down(st, f, gear);
            st.at.set(f, st.at.get(f) * down / st.toldDown.get(f));
            st.toldDown.set(f, down);
        }
    }

    private static boolean clicksIn(State st, int f, int act, int gear, int i) {
        boolean by = moves(st, f, act, gear);
        char k = kind(st, f);
        if (k == 'o') by = i == 25 || i == 75;
        if (k == 'd' && st.sinceOil >= 0 && st.sinceOil < st.settings[3]) return false;
        if (k == 's' && st.settings[1] == 1) return false;
        return by && loadOf(st, act, i) >= limit(st, f);
    }

    /** One step of a fault: whether it comes by, going on. */
    private static boolean moves(State st, int f, int act, int gear) {
        long round = 100L * down(st, f, gear);
        long at = st.at.get(f);
        int up = up(st, f);
        if (act == 5) return false;
        if (act == 4) {
            if ("pdcs".indexOf(kind(st, f)) >= 0) st.at.set(f, (at - up + round) % round);
            return false;
        }
        long clicking = (long) st.faults.get(f)[PLACE] * down(st, f, gear);
        long to = at + up;
        st.at.set(f, to % round);
        return at < clicking && clicking <= to || clicking + round <= to;
    }

    private int[] countsOf(List<int[]> ride) {
        int[] counts = new int[s.faults.size()];
        for (int[] click : play(s.copy(), ride)) counts[click[1]]++;
        return counts;
    }

    private int[] stageCountsOf(int act, int gear, int turns) {
        return countsOf(List.of(new int[] {act, gear, turns}));
    }

    int counts(int fault) {
        if (noFault(fault)) return no(-1);
        return countsOf(s.ride)[fault];
    }

    int stageCounts(int fault, int act, int gear, int turns) {
        if (noFault(fault) || noAct(act) || noGear(gear)) return no(-1);
        if (turns < 1) return no(-4);
        if (turns > 60) return no(-6);
        return stageCountsOf(act, gear, turns)[fault];
    }

    int when(int fault, int i) {
        if (noFault(fault)) return no(-1);
        if (i < 0) return no(-4);
        int nth = 0;
        for (int[] click : play(s.copy(), s.ride)) {
            if (click[1] == fault && nth++ == i) return click[0];
        }
        return -9;
    }

    int heard(int z) {
        int heard = 0;
        for (int k = play(s.copy(), s.ride).size(); k > 0; k--) {
            z = z * 1664525 + 1013904223;
            if ((z & 0x7fffffff) / 256 % 100 >= s.settings[2]) heard++;
        }
        return heard;
    }

    int go() {
        if (s.ride.isEmpty()) return no(-3);
        State after = s.copy();
        play(after, s.ride);
        if (after.turns > 9999) return no(-6);
        s = after;
        return s.turns;
    }

    int fit(int count, int off) {
        if (count < 0 || off < 0) return no(-4);
        if (count > 9999 || off > 9999) return no(-6);
        return fitting(count, off);
    }

    private int fitting(int count, int off) {
        int bits = 0;
        int[] counts = countsOf(s.ride);
        for (int f = 0; f < counts.length; f++) if (in(counts[f], count - off, count + off)) bits += 1 << f;
        return bits;
    }

    private static int least(int up, int down, int part) {
        int g = java.math.BigInteger.valueOf(up).gcd(java.math.BigInteger.valueOf(down)).intValue();
        return (part == 0 ? up : down) / g;
    }

    int odds(int fault, int count, int off, int part) {
        if (noFault(fault)) return no(-1);
        if (!in(part, 0, 1)) return no(-2);
        if (count < 0 || off < 0) return no(-4);
        if (count > 9999 || off > 9999) return no(-6);
        int bits = fitting(count, off);
        if ((bits & 1 << fault) == 0) return no(-3);
        int all = 0;
        for (int f = 0; f < s.faults.size(); f++) if ((bits & 1 << f) != 0) all += s.faults.get(f)[WEIGHT];
        return least(s.faults.get(fault)[WEIGHT], all, part);
    }

    int twos(int count, int off, int i) {
        if (count < 0 || off < 0 || i < -1) return no(-4);
        if (count > 9999 || off > 9999) return no(-6);
        int[] counts = countsOf(s.ride);
        List<Integer> pairs = new ArrayList<>();
        for (int a = 0; a < counts.length; a++) {
            for (int b = a + 1; b < counts.length; b++) {
                if (in(counts[a] + counts[b], count - off, count + off)) pairs.add(10 * a + b);
            }
        }
        if (i == -1) return pairs.size();
        return i < pairs.size() ? pairs.get(i) : -9;
    }

    int apart(int a, int b) {
        if (noFault(a) || noFault(b) || a == b) return no(-1);
        for (int act = 0; act <= 3; act++) {
            for (int gear = 0; gear < s.cogs.size(); gear++) {
                int[] counts = stageCountsOf(act, gear, 20);
                if (counts[a] != counts[b]) return 10 * act + gear;
            }
        }
        return -9;
    }

    int tells(int n, int what) {
        if (!in(what, 0, 1)) return no(-2);
        if (n < 1) return no(-4);
        if (n > 60) return no(-6);
        if (s.cogs.isEmpty() || s.faults.isEmpty()) return no(-3);
        int best = -1;
        int most = -1;
        for (int act = 0; act <= 3; act++) {
            for (int gear = 0; gear < s.cogs.size(); gear++) {
                Set<Integer> unlike = new HashSet<>();
                for (int count : stageCountsOf(act, gear, n)) unlike.add(count);
                if (unlike.size() > most) {
                    most = unlike.size();
                    best = 10 * act + gear;
                }
            }
        }
        return what == 0 ? best : most;
    }

    int length(int a, int b, int act, int gear, int d) {
        if (noFault(a) || noFault(b) || a == b || noAct(act) || noGear(gear)) return no(-1);
        if (d < 1) return no(-4);
        if (d > 999) return no(-6);
        List<int[]> clicks = play(s.copy(), List.of(new int[] {act, gear, 60}));
        for (int turns = 1; turns <= 60; turns++) {
            int unlike = 0;
            for (int[] click : clicks) {
                if (click[0] < turns * 100) unlike += click[1] == a ? 1 : click[1] == b ? -1 : 0;
            }
            if (Math.abs(unlike) >= d) return turns;
        }
        return -9;
    }

    int beat(int a, int b, int gear) {
        if (noFault(a) || noFault(b) || a == b || noGear(gear)) return no(-1);
        State mind = s.copy();
        begin(mind, gear);
        for (int step = 0; step < 2000; step++) {
            boolean ofA = moves(mind, a, 0, gear);
            boolean ofB = moves(mind, b, 0, gear);
            if (ofA && ofB) return step;
        }
        return -9;
    }

    int away(int part) {
        if (!in(part, 0, 1)) return no(-2);
        if (s.faults.isEmpty()) return no(-3);
        int dry = 0;
        for (int f = 0; f < s.faults.size(); f++) if (kind(s, f) == 'd') dry += s.faults.get(f)[WEIGHT];
        return least(dry, count(7), part);
    }

    int danger(int fault) {
        if (noFault(fault)) return no(-1);
        if (kind(s, fault) != 'c') return no(-3);
        State then = s.copy();
        while (limit(then, fault) > 0) then.turns++;
        return then.turns - s.turns;
    }

    private int sum(List<Integer> order) {
        int sum = 0;
        for (int i = 0; i < order.size(); i++) {
            for (int j = 0; j <= i; j++) sum += s.faults.get(order.get(i))[WEIGHT] * s.faults.get(order.get(j))[MINUTES];
        }
        return sum;
    }

    /** Tries every order, by numbers, and keeps the first with the least sum. */
    private List<Integer> bestOrder(List<Integer> begun, List<Integer> best) {
        if (begun.size() == s.faults.size()) {
            return best == null || sum(begun) < sum(best) ? new ArrayList<>(begun) : best;
        }
        for (int f = 0; f < s.faults.size(); f++) {
            if (!begun.contains(f)) {
                begun.add(f);
                best = bestOrder(begun, best);
                begun.remove(begun.size() - 1);
            }
        }
        return best;
    }

    int least(int i) {
        if (i < -1) return no(-4);
        if (s.faults.size() > 6) return no(-6);
        List<Integer> best = bestOrder(new ArrayList<>(), null);
        if (i == -1) return sum(best);
        return i < best.size() ? best.get(i) : -9;
    }

    int row(int v) {
        if (v < 0) return no(-4);
        if (v > 32767 || row.size() == 8) return no(-6);
        row.add(v);
        return row.size();
    }

    int judge() {
        List<Integer> told = row;
        row = new ArrayList<>();
        int[] counts = countsOf(s.ride);
        for (int f = 0; f < counts.length; f++) {
            if (f == told.size()) return f;
            if (told.get(f) != counts[f]) return f;
        }
        return told.size() > counts.length ? counts.length : -9;
    }

    int held() {
        Set<Integer> once = new HashSet<>(row);
        boolean each = row.size() == s.faults.size() && once.size() == row.size();
        for (int f : row) each = each && f < s.faults.size();
        if (!each) return no(-3);
        if (s.faults.size() > 6) return no(-6);
        int more = sum(row) - least(-1);
        row = new ArrayList<>();
        return more;
    }

    int image() {
        kept = s.copy();
        return s.faults.size();
    }

    int on() {
        if (kept == null) return no(-3);
        s = kept.copy();
        return s.faults.size();
    }

    int count(int what) {
        if (in(what, 11, 16)) return refused[what - 10];
        switch (what) {
            case 0: return s.faults.size();
            case 1: return s.cogs.size();
            case 2: return s.ride.size();
            case 3: return s.turns;
            case 4: return s.sinceOil;
            case 5: return tape.length();
            case 6: return row.size();
            case 7: {
                int all = 0;
                for (int[] f : s.faults) all += f[WEIGHT];
                return all;
            }
            default: return -9;
        }
    }
}
