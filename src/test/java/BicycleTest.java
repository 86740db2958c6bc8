/** Promises 1 and 4 to 9: a new object, parts and faults, rounds, loads, settings and oil. */
public final class BicycleTest {
    public static void main(String[] args) {
        newObject();
        parts();
        manyParts();
        faults();
        whereTheyStand();
        limits();
        rounds();
        loads();
        loadsOnHills();
        settings();
        oil();
        oilWearsOff();
        oilOfNone();
        Checks.finish("BicycleTest");
    }

    private static void newObject() {
        ClickEachTurn x = new ClickEachTurn();
        for (int what = 0; what <= 7; what++) Checks.due(1, "count(" + what + ")", x.count(what), what == 4 ? -9 : 0);
        for (int what = 11; what <= 16; what++) Checks.due(1, "count(" + what + ")", x.count(what), 0);
        Checks.due(1, "part(0)", x.part(0), 44);
        Checks.due(1, "part(1)", x.part(1), 108);
        int[] settings = {0, 0, 0, 30};
        for (int what = 0; what < 4; what++) Checks.due(1, "set(" + what + ", 0)", x.set(what, 0), settings[what]);
        Checks.due(1, "oil()", x.oil(), 0);
        Checks.due(1, "drop()", x.drop(), 0);
        Checks.due(1, "heard(0)", x.heard(0), 0);
        Checks.due(1, "fit(0, 0)", x.fit(0, 0), 0);
        Checks.due(1, "twos(0, 9999, -1)", x.twos(0, 9999, -1), 0);
        Checks.due(1, "least(-1)", x.least(-1), 0);
        Checks.due(1, "least(0)", x.least(0), -9);
        Checks.due(1, "judge()", x.judge(), -9);
        Checks.due(1, "held()", x.held(), 0);
        Checks.due(1, "bicycle()", x.bicycle(), -1000);
        Checks.due(1, "part(10)", x.part(10), -1);
        Checks.due(1, "fault(0, 0)", x.fault(0, 0), -1);
        Checks.due(1, "on()", x.on(), -3);
        Checks.due(1, "image()", x.image(), 0);
    }

    private static void parts() {
        ClickEachTurn x = Checks.bike("f21;k99;r12;r34;");
        Checks.due(4, "part(0)", x.part(0), 21);
        Checks.due(4, "part(1)", x.part(1), 99);
        Checks.due(4, "part(10)", x.part(10), 12);
        Checks.due(4, "part(11)", x.part(11), 34);
        Checks.due(4, "part(12)", x.part(12), -1);
        Checks.due(4, "part(9)", x.part(9), -2);
        Checks.due(4, "part(2)", x.part(2), -2);
    }

    /** Each number of cogs up to five: the last is there, the one behind it not. */
    private static void manyParts() {
        for (int n = 0; n <= 5; n++) {
            ClickEachTurn x = new ClickEachTurn();
            for (int g = 0; g < n; g++) Checks.read(x, "r1" + g + ";");
            for (int g = 0; g < n; g++) Checks.due(4, "the cog of gear " + g + " of " + n, x.part(10 + g), 10 + g);
            Checks.due(4, "the cog behind " + n, x.part(10 + n), -1);
            Checks.due(4, "count(1)", x.count(1), n);
        }
    }

    private static ClickEachTurn eight() {
        return Checks.bike("r10;qp12,3,4,5;qb23,4,5,6,7/8;ql34,5,6,7;qt45,6,7,8;", "qo56,7,8,9;qd67,8,9,10;qc78,2,10,11;qs89,0,11,12;");
    }

    private static void faults() {
        int[][] want = {{0, 12, 3, 4, 5}, {1, 23, 4, 5, 6}, {2, 34, 5, 6, 7}, {3, 45, 6, 7, 8},
            {4, 56, 7, 8, 9}, {5, 67, 8, 9, 10}, {6, 78, 2, 10, 11}, {7, 89, 0, 11, 12}};
        ClickEachTurn x = eight();
        for (int f = 0; f < 8; f++) {
            for (int what = 0; what < 5; what++) Checks.due(5, "fault(" + f + ", " + what + ")", x.fault(f, what), want[f][what]);
            Checks.due(5, "AT at first", x.fault(f, 5), 0);
            Checks.due(5, "LIMIT at first", x.fault(f, 6), want[f][2]);
        }
        Checks.due(5, "the ninth", x.fault(8, 0), -1);
        Checks.due(5, "one below the first", x.fault(-1, 7), -1);
        Checks.due(5, "other", x.fault(7, 7), -2);
    }

    /** After one turn each stands at 100 times UP, gone round. */
    private static void whereTheyStand() {
        ClickEachTurn x = eight();
        x.stage(0, 0, 1);
        x.go();
        int[] want = {0, 700, 4400, 400, 0, 0, 0, 0};
        for (int f = 0; f < 8; f++) Checks.due(5, "AT of " + f, x.fault(f, 5), want[f]);
        x.go();
        // 1400 of 800, 8800 of 10800, 4800 of 1000.
        int[] then = {0, 600, 8800, 800, 0, 0, 0, 0};
        for (int f = 0; f < 8; f++) Checks.due(5, "AT of " + f + " then", x.fault(f, 5), then[f]);
        x.go();
        Checks.due(5, "AT of a link, gone round", x.fault(2, 5), 2400);
    }

    /** "LOAD less 1 for each 20 TURNS that were ridden ahead (whole ones, all of all rides), 0 at least". */
    private static void limits() {
        int[] turns = {1, 18, 1, 19, 1, 19, 1, 60};
        int[] limit = {2, 2, 1, 1, 0, 0, 0, 0};
        ClickEachTurn x = eight();
        for (int i = 0; i < turns.length; i++) {
            x.drop();
            x.stage(i % 6, 0, turns[i]);
            x.go();
            Checks.due(5, "LIMIT of a cracked one behind " + x.count(3) + " turns", x.fault(6, 6), limit[i]);
            Checks.due(5, "its LOAD", x.fault(6, 2), 2);
            for (int f = 0; f < 8; f++) if (f != 6) Checks.due(5, "LIMIT of " + f, x.fault(f, 6), x.fault(f, 2));
        }
        ClickEachTurn y = Checks.bike("r10;qc00,9,1,1;qc00,0,1,1;");
        y.stage(5, 0, 20);
        for (int i = 1; i <= 11; i++) {
            y.go();
            Checks.due(5, "LIMIT 9 behind " + 20 * i, y.fault(0, 6), Math.max(0, 9 - i));
            Checks.due(5, "LIMIT 0 behind " + 20 * i, y.fault(1, 6), 0);
        }
    }

    private static void rounds() {
        ClickEachTurn x = Checks.bike("f44;k110;r22;r11;qp00,0,1,1;qb00,0,1,1,6/4;ql00,0,1,1;", "qt00,0,1,1;qo00,0,1,1;qd00,0,1,1;",
            "qc00,0,1,1;qs00,0,1,1;");
        int[] up = {1, 6, 44, 44, 1, 1, 1, 1};
        int[] down0 = {1, 4, 110, 22, 1, 1, 1, 1};
        int[] down1 = {1, 4, 110, 11, 1, 1, 1, 1};
        for (int f = 0; f < 8; f++) {
            Checks.due(6, "UP of " + f, x.rounds(f, 0, 0), up[f]);
            Checks.due(6, "UP of " + f + " in gear 1", x.rounds(f, 1, 0), up[f]);
            Checks.due(6, "DOWN of " + f, x.rounds(f, 0, 1), down0[f]);
            Checks.due(6, "DOWN of " + f + " in gear 1", x.rounds(f, 1, 1), down1[f]);
            Checks.due(6, "a gear that is not there", x.rounds(f, 2, 0), -1);
            Checks.due(6, "another part", x.rounds(f, 1, 2), -2);
        }
        Checks.read(x, "f60;k140;");
        Checks.due(6, "UP of a link then", x.rounds(2, 0, 0), 60);
        Checks.due(6, "DOWN of a link then", x.rounds(2, 0, 1), 140);
        Checks.due(6, "UP of a tooth then", x.rounds(3, 1, 0), 60);
        ClickEachTurn y = Checks.bike("f20;r10;r11;r12;r13;r40;", "qt00,0,1,1;qb00,0,1,1,20/1;qb00,0,1,1,1/20;");
        for (int g = 0; g < 5; g++) Checks.due(6, "DOWN of a tooth in gear " + g, y.rounds(0, g, 1), g < 4 ? 10 + g : 40);
        Checks.due(6, "UP, the greatest", y.rounds(1, 4, 0), 20);
        Checks.due(6, "DOWN, the greatest", y.rounds(2, 4, 1), 20);
    }

    /** LOAD in each step of a turn: PUSHES are 15 .. 34 and 65 .. 84. */
    private static void loads() {
        for (int hill : new int[] {0, 3, 9}) {
            for (int act = 0; act < 6; act++) {
                ClickEachTurn x = new ClickEachTurn();
                x.set(0, hill);
                for (int step = 0; step < 100; step++) {
                    boolean left = step >= 15 && step < 35;
                    boolean push = left || step >= 65 && step < 85;
                    int[] want = {push ? 6 + hill : 2, push ? 8 + hill : 1, push ? 5 + hill : 1, left ? 6 + hill : 2, 0, 0};
                    Checks.due(7, "load(" + act + ", " + step + ") on " + hill, x.load(act, step), want[act]);
                }
            }
        }
    }

    private static void loadsOnHills() {
        for (int hill = 0; hill <= 9; hill++) {
            ClickEachTurn x = new ClickEachTurn();
            x.set(0, hill);
            int[][] edges = {{14, 15}, {35, 34}, {64, 65}, {85, 84}};
            for (int[] e : edges) {
                boolean left = e[0] < 50;
                int[] outside = {2, 1, 1, 2, 0, 0};
                int[] inside = {6 + hill, 8 + hill, 5 + hill, left ? 6 + hill : 2, 0, 0};
                for (int act = 0; act < 6; act++) {
                    Checks.due(7, "load(" + act + ", " + e[0] + ") outside", x.load(act, e[0]), outside[act]);
                    Checks.due(7, "load(" + act + ", " + e[1] + ") inside", x.load(act, e[1]), inside[act]);
                }
            }
        }
    }

    /** Each setting from its least to its greatest: what it was is told, and the others stay. */
    private static void settings() {
        int[] first = {0, 0, 0, 30};
        int[] most = {9, 1, 100, 99};
        for (int what = 0; what < 4; what++) {
            ClickEachTurn x = new ClickEachTurn();
            int was = first[what];
            for (int v = 0; v <= most[what]; v++) {
                Checks.due(8, "set(" + what + ", " + v + ")", x.set(what, v), was);
                was = v;
            }
            Checks.due(8, "one above", x.set(what, most[what] + 1), -6);
            Checks.due(8, "one below", x.set(what, -1), -4);
            Checks.due(8, "it stays", x.set(what, 0), most[what]);
            for (int other = 0; other < 4; other++) {
                if (other != what) Checks.due(8, "set(" + what + "), then the other " + other, x.set(other, 0), first[other]);
            }
        }
    }

    private static void oil() {
        ClickEachTurn x = Checks.bike("r10;qd50,0,1,1;qp50,0,1,1;qd20,0,1,1;");
        x.stage(0, 0, 40);
        Checks.due(9, "count(4) never oiled", x.count(4), -9);
        Checks.due(9, "counts(0) never oiled", x.counts(0), 40);
        Checks.due(9, "oil()", x.oil(), 2);
        Checks.due(9, "count(4) just oiled", x.count(4), 0);
        Checks.due(9, "silent for 30 turns of 40", x.counts(0), 10);
        Checks.due(9, "its first click", x.when(0, 0), 3049);
        Checks.due(9, "others are not oiled", x.counts(1), 40);
        x.set(3, 0);
        Checks.due(9, "silent for none", x.counts(2), 40);
        x.set(3, 1);
        Checks.due(9, "silent for one", x.counts(2), 39);
        x.set(3, 39);
        Checks.due(9, "silent for 39 turns", x.counts(2), 1);
        x.set(3, 40);
        Checks.due(9, "silent for 40 turns", x.counts(2), 0);
    }

    private static void oilWearsOff() {
        ClickEachTurn x = Checks.bike("r10;qd50,0,1,1;qd20,0,1,1;");
        x.set(3, 99);
        x.oil();
        x.stage(0, 0, 40);
        x.go();
        Checks.due(9, "count(4) after 40", x.count(4), 40);
        Checks.due(9, "oil() again", x.oil(), 2);
        Checks.due(9, "count(4) then", x.count(4), 0);
        x.go();
        x.go();
        Checks.due(9, "silent till turn 99", x.counts(0), 21);
        Checks.due(9, "the first click behind it", x.when(0, 0), 1949);
        x.drop();
        x.stage(5, 0, 18);
        x.go();
        Checks.due(9, "coasted turns count", x.count(4), 98);
        Checks.due(9, "the 99th turn", x.stageCounts(0, 0, 0, 1), 0);
        Checks.due(9, "the 100th turn", x.stageCounts(0, 0, 0, 2), 1);
        x.drop();
        x.stage(0, 0, 1);
        x.go();
        Checks.due(9, "behind 99", x.stageCounts(0, 0, 0, 1), 1);
        Checks.due(9, "oil() once more", x.oil(), 2);
        Checks.due(9, "silent again", x.counts(0), 0);
    }

    private static void oilOfNone() {
        ClickEachTurn x = Checks.bike("r10;qp00,0,1,1;");
        Checks.due(9, "oil() with none", x.oil(), 0);
        Checks.due(9, "others click", x.stageCounts(0, 0, 0, 1), 1);
        ClickEachTurn y = Checks.bike("qd00,0,1,1;qd00,0,1,1;qd00,0,1,1;qd00,0,1,1;", "qd00,0,1,1;qd00,0,1,1;qd00,0,1,1;qd00,0,1,1;");
        Checks.due(9, "oil() of eight", y.oil(), 8);
    }
}
