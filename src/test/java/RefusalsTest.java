import java.util.ArrayList;
import java.util.Arrays;
import java.util.HashSet;
import java.util.List;
import java.util.Set;
import java.util.function.Supplier;

/**
 * Every call with numbers at both sides of each of its edges, all of them together, on objects from
 * the empty to the full: which refusal is due is told by the first rule that fits, in the document's
 * order. What is refused is counted and changes nothing else; what is taken is not counted.
 */
public final class RefusalsTest {
    private static final int MIN = Integer.MIN_VALUE;
    private static final int MAX = Integer.MAX_VALUE;
    private static final int[] ACTS = {MIN, -1, 0, 5, 6, MAX};
    private static final int[] TURNS = {MIN, -1, 0, 1, 60, 61, MAX};
    private static final int[] PARTS = {MIN, -1, 0, 1, 2, MAX};
    private static final int[] COUNTS = {MIN, -1, 0, 5, 9999, 10000, MAX};
    private static final int[] ANY = {MIN, -1, 0, 9, 10, 11, 16, 17, MAX};

    /** The refusal that is due, or 0. */
    private interface Rule { int of(World w, int[] a); }

    private interface Call { int on(ClickEachTurn x, int[] a); }

    private static final class World {
        final String name;
        final Supplier<ClickEachTurn> made;
        final String twin;
        final int faults;
        final int cogs;
        final int stages;
        final int row;

        World(String name, Supplier<ClickEachTurn> made) {
            this.name = name;
            this.made = made;
            twin = Checks.all(made.get());
            ClickEachTurn x = made.get();
            faults = x.count(0);
            cogs = x.count(1);
            stages = x.count(2);
            row = x.count(6);
        }

        boolean noFault(int f) { return f < 0 || f >= faults; }
        boolean noTwo(int a, int b) { return noFault(a) || noFault(b) || a == b; }
        boolean noGear(int g) { return g < 0 || g >= cogs; }
        int[] faultsAbout() { return about(faults); }
        int[] gearsAbout() { return about(cogs); }
    }

    public static void main(String[] args) {
        List<World> worlds = new ArrayList<>();
        worlds.add(new World("new", ClickEachTurn::new));
        worlds.add(new World("cogs alone", () -> Checks.bike("r10;")));
        worlds.add(new World("faults alone", () -> Checks.bike("qp00,0,1,1;qc00,0,1,1;")));
        worlds.add(new World("some", RefusalsTest::some));
        worlds.add(new World("full", RefusalsTest::full));
        for (World w : worlds) {
            bicycle(w);
            ride(w);
            tell(w);
            order(w);
        }
        tapes();
        stages();
        turns();
        leasts();
        rows();
        heldRows();
        heldOfMany();
        images();
        manyRefusals();
        Checks.finish("RefusalsTest");
    }

    /** Some of everything, and room for more; there is no image. */
    private static ClickEachTurn some() {
        ClickEachTurn x = Checks.bike("r10;r20;qp33,0,6,9;qc20,7,2,3;qt50,0,4,4;");
        x.stage(0, 0, 3);
        x.stage(3, 1, 2);
        x.go();
        x.set(0, 2);
        for (int f = 0; f < 3; f++) x.row(x.counts(f));
        Checks.feed(x, "f30;r33;");
        return x;
    }

    /** Five cogs, eight faults, eight stages, a row of eight, a tape of 64 bytes; an image of it. */
    private static ClickEachTurn full() {
        ClickEachTurn x = Checks.bike("f20;r10;r20;r30;r40;r15;qp33,0,6,9;qb20,2,2,3,7/3;", "ql10,0,1,1;qt20,1,2,2;qo30,2,3,3;",
            "qd40,3,4,4;qc50,4,5,5;qs60,5,6,6;");
        x.stage(0, 0, 5);
        x.go();
        x.image();
        x.oil();
        int[] settings = {1, 0, 2, 3};
        for (int i = 0; i < 4; i++) x.set(i, settings[i]);
        for (int i = 1; i < 8; i++) x.stage(i % 6, i % 5, 1 + i);
        for (int f = 0; f < 8; f++) x.row(x.counts(f));
        Checks.feed(x, "f020;f020;f020;f020;f020;f020;f020;f020;f020;f020;f020;f020;f22;");
        return x;
    }

    /** None, the first, the last and the one behind it. */
    private static int[] about(int size) {
        return new int[] {MIN, -1, 0, size - 1, size, MAX};
    }

    private static void bicycle(World w) {
        each(4, "part", w, (v, a) -> a[0] == 0 || a[0] == 1 ? 0 : a[0] < 10 ? -2 : v.noGear(a[0] - 10) ? -1 : 0,
            (x, a) -> x.part(a[0]), new int[] {MIN, -1, 0, 1, 2, 9, 10, 9 + w.cogs, 10 + w.cogs, 15, MAX});
        each(5, "fault", w, (v, a) -> v.noFault(a[0]) ? -1 : a[1] < 0 || a[1] > 6 ? -2 : 0,
            (x, a) -> x.fault(a[0], a[1]), w.faultsAbout(), new int[] {MIN, -1, 0, 6, 7, MAX});
        each(6, "rounds", w, (v, a) -> v.noFault(a[0]) || v.noGear(a[1]) ? -1 : a[2] < 0 || a[2] > 1 ? -2 : 0,
            (x, a) -> x.rounds(a[0], a[1], a[2]), w.faultsAbout(), w.gearsAbout(), PARTS);
        each(7, "load", w, (v, a) -> a[0] < 0 || a[0] > 5 ? -1 : a[1] < 0 ? -4 : a[1] > 99 ? -6 : 0,
            (x, a) -> x.load(a[0], a[1]), ACTS, new int[] {MIN, -1, 0, 99, 100, MAX});
        int[] most = {9, 1, 100, 99};
        each(8, "set", w, (v, a) -> a[0] < 0 || a[0] > 3 ? -2 : a[1] < 0 ? -4 : a[1] > most[a[0]] ? -6 : 0,
            (x, a) -> x.set(a[0], a[1]), new int[] {MIN, -1, 0, 1, 2, 3, 4, MAX}, new int[] {MIN, -1, 0, 1, 2, 9, 10, 99, 100, 101, MAX});
        each(9, "oil", w, (v, a) -> 0, (x, a) -> x.oil());
    }

    private static void ride(World w) {
        each(10, "stage", w, (v, a) -> a[0] < 0 || a[0] > 5 || v.noGear(a[1]) ? -1 : a[2] < 1 ? -4 : a[2] > 60 || v.stages == 8 ? -6 : 0,
            (x, a) -> x.stage(a[0], a[1], a[2]), ACTS, w.gearsAbout(), TURNS);
        each(11, "stageOf", w, (v, a) -> a[0] < 0 || a[0] >= v.stages ? -1 : a[1] < 0 || a[1] > 2 ? -2 : 0,
            (x, a) -> x.stageOf(a[0], a[1]), about(w.stages), new int[] {MIN, -1, 0, 2, 3, MAX});
        each(12, "drop", w, (v, a) -> 0, (x, a) -> x.drop());
        each(13, "counts", w, (v, a) -> v.noFault(a[0]) ? -1 : 0, (x, a) -> x.counts(a[0]), w.faultsAbout());
        each(14, "stageCounts", w,
            (v, a) -> v.noFault(a[0]) || a[1] < 0 || a[1] > 5 || v.noGear(a[2]) ? -1 : a[3] < 1 ? -4 : a[3] > 60 ? -6 : 0,
            (x, a) -> x.stageCounts(a[0], a[1], a[2], a[3]), w.faultsAbout(), ACTS, w.gearsAbout(), TURNS);
        each(15, "when", w, (v, a) -> v.noFault(a[0]) ? -1 : a[1] < 0 ? -4 : 0,
            (x, a) -> x.when(a[0], a[1]), w.faultsAbout(), new int[] {MIN, -9, -1, 0, 1, MAX});
        each(16, "heard", w, (v, a) -> 0, (x, a) -> x.heard(a[0]), ANY);
        each(17, "go", w, (v, a) -> v.stages == 0 ? -3 : 0, (x, a) -> x.go());
    }

    private static int countRule(int count, int off) {
        return count < 0 || off < 0 ? -4 : count > 9999 || off > 9999 ? -6 : 0;
    }

    private static int oddsRule(World w, int[] a) {
        if (w.noFault(a[0])) return -1;
        if (a[3] < 0 || a[3] > 1) return -2;
        if (countRule(a[1], a[2]) != 0) return countRule(a[1], a[2]);
        return Math.abs(w.made.get().counts(a[0]) - a[1]) > a[2] ? -3 : 0;
    }

    private static void tell(World w) {
        each(18, "fit", w, (v, a) -> countRule(a[0], a[1]), (x, a) -> x.fit(a[0], a[1]), COUNTS, COUNTS);
        each(19, "odds", w, RefusalsTest::oddsRule, (x, a) -> x.odds(a[0], a[1], a[2], a[3]), w.faultsAbout(), COUNTS, COUNTS, PARTS);
        each(20, "twos", w, (v, a) -> a[2] < -1 ? -4 : countRule(a[0], a[1]),
            (x, a) -> x.twos(a[0], a[1], a[2]), COUNTS, COUNTS, new int[] {MIN, -2, -1, 0, 10000, MAX});
        each(21, "apart", w, (v, a) -> v.noTwo(a[0], a[1]) ? -1 : 0, (x, a) -> x.apart(a[0], a[1]), w.faultsAbout(), w.faultsAbout());
        each(22, "tells", w, (v, a) -> a[1] < 0 || a[1] > 1 ? -2 : a[0] < 1 ? -4 : a[0] > 60 ? -6 : v.cogs == 0 || v.faults == 0 ? -3 : 0,
            (x, a) -> x.tells(a[0], a[1]), TURNS, PARTS);
        each(23, "length", w,
            (v, a) -> v.noTwo(a[0], a[1]) || a[2] < 0 || a[2] > 5 || v.noGear(a[3]) ? -1 : a[4] < 1 ? -4 : a[4] > 999 ? -6 : 0,
            (x, a) -> x.length(a[0], a[1], a[2], a[3], a[4]),
            w.faultsAbout(), w.faultsAbout(), new int[] {-1, 0, 5, 6}, new int[] {-1, 0, w.cogs - 1, w.cogs}, new int[] {MIN, 0, 1, 999, 1000, MAX});
        each(24, "beat", w, (v, a) -> v.noTwo(a[0], a[1]) || v.noGear(a[2]) ? -1 : 0,
            (x, a) -> x.beat(a[0], a[1], a[2]), w.faultsAbout(), w.faultsAbout(), w.gearsAbout());
        each(25, "away", w, (v, a) -> a[0] < 0 || a[0] > 1 ? -2 : v.faults == 0 ? -3 : 0, (x, a) -> x.away(a[0]), PARTS);
    }

    private static void order(World w) {
        int[] everyFault = new int[w.faults + 2];
        for (int i = 0; i < everyFault.length; i++) everyFault[i] = i - 1;
        each(26, "danger", w, (v, a) -> v.noFault(a[0]) ? -1 : v.made.get().fault(a[0], 0) != 6 ? -3 : 0, (x, a) -> x.danger(a[0]), everyFault);
        each(27, "least", w, (v, a) -> a[0] < -1 ? -4 : v.faults > 6 ? -6 : 0,
            (x, a) -> x.least(a[0]), new int[] {MIN, -2, -1, 0, w.faults - 1, w.faults, MAX});
        each(28, "row", w, (v, a) -> a[0] < 0 ? -4 : a[0] > 32767 || v.row == 8 ? -6 : 0,
            (x, a) -> x.row(a[0]), new int[] {MIN, -1, 0, 32767, 32768, MAX});
        each(29, "judge", w, (v, a) -> 0, (x, a) -> x.judge());
        each(31, "image", w, (v, a) -> 0, (x, a) -> x.image());
        each(33, "count", w, (v, a) -> 0, (x, a) -> x.count(a[0]), ANY);
    }

    private static void each(int promise, String name, World w, Rule rule, Call call, int[]... values) {
        each(promise, name, w, rule, call, values, new int[values.length], 0);
    }

    private static void each(int promise, String name, World w, Rule rule, Call call, int[][] values, int[] a, int filled) {
        if (filled < values.length) {
            for (int v : values[filled]) {
                a[filled] = v;
                each(promise, name, w, rule, call, values, a, filled + 1);
            }
            return;
        }
        one(promise, w, name + Arrays.toString(a), rule.of(w, a), x -> call.on(x, a));
    }

    private static void one(int promise, World w, String what, int due, java.util.function.ToIntFunction<ClickEachTurn> call) {
        if (due == 0) Checks.taken(promise, w.name + ": " + what, w.made, call);
        else Checks.refused(promise, w.name + ": " + what, w.made, w.twin, due, call);
    }

    /** A tape of every length: n bytes more are taken up to 64 in all. */
    private static void tapes() {
        for (int length = 0; length <= 64; length++) {
            String text = "f020;f020;f020;f020;f020;f020;f020;f020;f020;f020;f020;f020;f20;".substring(64 - length);
            World w = new World("a tape of " + length, () -> {
                ClickEachTurn x = new ClickEachTurn();
                Checks.feed(x, text);
                return x;
            });
            int had = length;
            each(2, "feed", w, (v, a) -> a[0] < 1 ? -4 : a[0] > 8 || had + a[0] > 64 ? -6 : 0,
                (x, a) -> x.feed(a[0], 0x2020202020202020L), new int[] {MIN, -1, 0, 1, 2, 3, 4, 5, 6, 7, 8, 9, MAX});
            for (int n = 1; n <= 8 && had + n <= 64; n++) Checks.due(2, "feed(" + n + ") behind " + had, w.made.get().feed(n, 0), had + n);
        }
    }

    /** A ride of every number of stages. */
    private static void stages() {
        for (int size = 0; size <= 8; size++) {
            int had = size;
            World w = new World("a ride of " + size, () -> {
                ClickEachTurn x = Checks.bike("r10;qp33,0,1,1;");
                for (int i = 0; i < had; i++) x.stage(i % 6, 0, 1 + i);
                return x;
            });
            ride(w);
            if (size < 8) Checks.due(10, "stage behind " + size, w.made.get().stage(0, 0, 60), size + 1);
        }
    }

    /** Rides up to 9999 turns in all come to pass, and none above. */
    private static void turns() {
        for (int last = 38; last <= 40; last++) {
            int more = last;
            World w = new World("9960 and " + last, () -> {
                ClickEachTurn x = Checks.bike("r10;ql33,0,1,1;");
                for (int i = 0; i < 8; i++) x.stage(0, 0, 60);
                for (int i = 0; i < 20; i++) x.go();
                x.drop();
                for (int i = 0; i < 6; i++) x.stage(1, 0, 60);
                x.go();
                x.drop();
                x.stage(3, 0, more);
                return x;
            });
            each(17, "go", w, (v, a) -> more > 39 ? -6 : 0, (x, a) -> x.go());
            if (last <= 39) Checks.due(17, "9960 and " + last, w.made.get().go(), 9960 + last);
        }
    }

    /** Bicycles of every number of faults. */
    private static void leasts() {
        for (int size = 0; size <= 8; size++) {
            int had = size;
            World w = new World("of " + size + " faults", () -> Checks.faults(had));
            order(w);
            tell(w);
            for (int i = -1; i <= size && size <= 6; i++) {
                Checks.due(27, w.name + ", least(" + i + ") is none", w.made.get().least(i) == -9 ? 1 : 0, i == size ? 1 : 0);
            }
        }
    }

    /** Rows of every length: a count more is taken up to eight. */
    private static void rows() {
        for (int size = 0; size <= 8; size++) {
            int had = size;
            World w = new World("a row of " + size, () -> {
                ClickEachTurn x = Checks.faults(8);
                for (int i = 0; i < had; i++) x.row(0);
                return x;
            });
            order(w);
            if (size < 8) Checks.due(28, "row behind " + size, w.made.get().row(32767), size + 1);
        }
    }

    private static Supplier<ClickEachTurn> told(int faults, List<Integer> row) {
        return () -> {
            ClickEachTurn x = Checks.faults(faults);
            for (int v : row) x.row(v);
            return x;
        };
    }

    private static void held(int faults, List<Integer> row) {
        Set<Integer> once = new HashSet<>(row);
        boolean each = row.size() == faults && once.size() == faults;
        for (int v : row) each &= v < faults;
        String what = "held by " + row + " of " + faults;
        if (!each) Checks.refused(30, what, told(faults, row), -3, ClickEachTurn::held);
        else if (faults > 6) Checks.refused(30, what, told(faults, row), -6, ClickEachTurn::held);
        else Checks.taken(30, what, told(faults, row), ClickEachTurn::held);
    }

    /** All rows of few numbers for few faults; 32 and 64 are the ones that a row of bits may take for 0. */
    private static void heldRows() {
        for (int faults = 0; faults <= 3; faults++) {
            List<Integer> values = new ArrayList<>(List.of(32, 64, 32767));
            for (int v = 0; v <= faults; v++) values.add(v);
            heldRows(faults, values, new ArrayList<>());
        }
    }

    private static void heldRows(int faults, List<Integer> values, List<Integer> row) {
        held(faults, row);
        if (row.size() > faults) return;
        for (int v : values) {
            row.add(v);
            heldRows(faults, values, row);
            row.remove(row.size() - 1);
        }
    }

    private static void heldOfMany() {
        for (int faults = 5; faults <= 8; faults++) {
            List<Integer> row = new ArrayList<>();
            for (int f = faults - 1; f >= 0; f--) row.add(f);
            held(faults, row);
            held(faults, row.subList(1, faults));
            held(faults, row.subList(0, faults - 1));
            for (int i = 0; i < faults; i++) {
                List<Integer> other = new ArrayList<>(row);
                other.set(i, i == 0 ? 0 : faults - 1);
                held(faults, other);
                other.set(i, faults);
                held(faults, other);
            }
            if (faults < 8) {
                row.add(0);
                held(faults, row);
            }
        }
    }

    private static void images() {
        Checks.refused(32, "on of a new object", ClickEachTurn::new, -3, ClickEachTurn::on);
        Checks.refused(32, "on of some", RefusalsTest::some, -3, ClickEachTurn::on);
        Checks.taken(32, "on of full", RefusalsTest::full, ClickEachTurn::on);
        Checks.taken(32, "on of an image of nothing", () -> {
            ClickEachTurn x = new ClickEachTurn();
            x.image();
            return x;
        }, ClickEachTurn::on);
    }

    /** All calls that an object is good for may be refused, each is counted, and it is as new then. */
    private static void manyRefusals() {
        ClickEachTurn x = new ClickEachTurn();
        for (int i = 0; i < 101; i++) Checks.due(33, "counts(0)", x.counts(0), -1);
        for (int i = 0; i < 102; i++) Checks.due(33, "part(2)", x.part(2), -2);
        for (int i = 0; i < 103; i++) Checks.due(33, "go()", x.go(), -3);
        for (int i = 0; i < 99; i++) Checks.due(33, "row(-1)", x.row(-1), -4);
        for (int i = 0; i < 98; i++) Checks.due(33, "feed(9)", x.feed(9, 0), -6);
        int[] want = {101, 102, 103, 99, 0, 98};
        for (int i = 0; i < 6; i++) Checks.due(33, "count(" + (11 + i) + ")", x.count(11 + i), want[i]);
        Checks.due(33, "image()", x.image(), 0);
    }
}
