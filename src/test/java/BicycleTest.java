/** Promises 1 to 9: the bicycle, its parts and faults, loads and settings. */
public final class BicycleTest {
    public static void main(String[] args) {
        promise1();
        promise2();
        promise3Forms();
        promise3Senses();
        promise3All();
        promise4();
        promise5();
        promise6();
        promise7();
        promise8();
        promise9();
        Checks.finish("BicycleTest");
    }

    private static void promise1() {
        ClickEachTurn x = new ClickEachTurn();
        for (int what = 0; what <= 7; what++) Checks.due(1, "count(" + what + ")", x.count(what), what == 4 ? -9 : 0);
        for (int what = 11; what <= 16; what++) Checks.due(1, "count(" + what + ")", x.count(what), 0);
        Checks.due(1, "part(0)", x.part(0), 44);
        Checks.due(1, "part(1)", x.part(1), 108);
        Checks.due(1, "set(0, 0)", x.set(0, 0), 0);
        Checks.due(1, "set(1, 0)", x.set(1, 0), 0);
        Checks.due(1, "set(2, 0)", x.set(2, 0), 0);
        Checks.due(1, "set(3, 30)", x.set(3, 30), 30);
        Checks.refused(1, "on()", x, -3, x::on);
    }

    private static void promise2() {
        ClickEachTurn x = new ClickEachTurn();
        Checks.due(2, "feed f2", x.feed(2, 0x77770000L | '2' << 8 | 'f'), 2);
        Checks.due(2, "feed 0;", x.feed(2, ';' << 8 | '0'), 4);
        Checks.refused(2, "feed(0)", x, -4, () -> x.feed(0, 1));
        Checks.refused(2, "feed(-1)", x, -4, () -> x.feed(-1, 1));
        Checks.refused(2, "feed(least)", x, -4, () -> x.feed(Integer.MIN_VALUE, 1));
        Checks.refused(2, "feed(9)", x, -6, () -> x.feed(9, 1));
        Checks.refused(2, "feed(greatest)", x, -6, () -> x.feed(Integer.MAX_VALUE, 1));
        Checks.due(2, "bicycle()", x.bicycle(), 1);
        Checks.due(2, "part(0)", x.part(0), 20);
        for (int i = 1; i <= 7; i++) Checks.due(2, "feed(8)", x.feed(8, -1L), 8 * i);
        Checks.due(2, "feed(4)", x.feed(4, -1L), 60);
        Checks.refused(2, "feed(5) above 64", x, -6, () -> x.feed(5, 1));
        Checks.due(2, "feed(4) up to 64", x.feed(4, 1), 64);
        Checks.refused(2, "feed(1) above 64", x, -6, () -> x.feed(1, 1));
        Checks.refused(2, "feed(0) when full", x, -4, () -> x.feed(0, 1));
        Checks.due(2, "bicycle() of no letters", x.bicycle(), -1000);
    }

    private static void text(ClickEachTurn x, String text, int want) {
        String before = Checks.view(x);
        int[] counted = Checks.refusals(x);
        Checks.due(3, "'" + text + "'", Checks.read(x, text), want);
        Checks.due(3, "count(5) behind '" + text + "'", x.count(5), 0);
        if (want < 0) Checks.same(3, "'" + text + "' changed the object", before, Checks.view(x));
        for (int i = 1; i <= 6; i++) Checks.due(3, "'" + text + "' counted", x.count(10 + i), counted[i]);
    }

    private static void promise3Forms() {
        ClickEachTurn x = Checks.bike("r10;qp00,1,2,3;");
        String[] broken = {"", "x", "F20;", " f20;", "f", "f;", "f20", "f20;x", "f20;;", "f20,", "f-1;", "f2000;", "k", "k1234;",
            "r1x;", "q", "qx", "qp", "qp1", "qp1,", "qp111", "qp11", "qp11;", "qp11,", "qp11,,", "qp11,1", "qp11,12", "qp11,1,",
            "qp11,1,;", "qp11,1,1", "qp11,1,123", "qp11,1,1,", "qp11,1,1,;", "qp11,1,1,1", "qp11,1,1,123;", "qp11,1,1,1,1/1;",
            "qb11,1,1,1;", "qb11,1,1,1,", "qb11,1,1,1,;", "qb11,1,1,1,1;", "qb11,1,1,1,1,1;", "qb11,1,1,1,123/1;",
            "qb11,1,1,1,1/", "qb11,1,1,1,1/;", "qb11,1,1,1,1/1", "qb11,1,1,1,1/123;", "qb11,1,1,1,1/1,"};
        int[] places = {0, 0, 0, 0, 1, 1, 3, 4, 4, 3, 1, 4, 1, 4,
            2, 1, 1, 2, 3, 3, 4, 4, 4, 5, 5, 6, 6, 7,
            7, 8, 9, 9, 9, 10, 11, 10,
            10, 11, 11, 12, 12, 13,
            13, 13, 14, 15, 14};
        Checks.due(3, "texts here", broken.length, places.length);
        for (int i = 0; i < broken.length; i++) text(x, broken[i], -1000 - places[i]);
        // The form of the whole text comes ahead of the sense of any of it.
        text(x, "f99;k1;r5;qp00,0,0,0;x", -1021);
        text(x, "f020;f020;f020;f020;f020;f020;f020;f020;f020;f020;f020;f020;f020", -1064);
        text(x, "f20;" + (char) 0, -1004);
        text(x, "f20;" + (char) 255, -1004);
        text(x, "f" + (char) ('0' + 128), -1001);
    }

    private static void promise3Senses() {
        ClickEachTurn x = Checks.bike("f30;k70;r10;qp00,1,2,3;");
        String[] wrong = {"f19;", "f61;", "f000;", "f999;", "k59;", "k141;", "k0;", "r9;", "r41;", "r0;",
            "qp11,1,0,1;", "qp11,1,1,0;", "qp11,1,00,1;", "qp11,1,1,00;", "qb11,1,1,1,0/1;", "qb11,1,1,1,1/0;",
            "qb11,1,1,1,21/1;", "qb11,1,1,1,1/21;", "qb11,1,0,1,1/1;"};
        for (String one : wrong) {
            text(x, one, -2000);
            text(x, "f25;" + one, -2004);
            text(x, "r12;" + one + "f99;", -2004);
        }
        text(x, "f19;f20;", -2000);
        text(x, "r11;r12;r13;r14;", 4);
        text(x, "f50;r15;", -2004);
        Checks.due(3, "part(0)", x.part(0), 30);
        text(x, "qp01,0,1,1;qp02,0,1,1;qp03,0,1,1;qp04,0,1,1;", 4);
        text(x, "qp05,0,1,1;qp06,0,1,1;qp07,0,1,1;qp08,0,1,1;", -2033);
        text(x, "qp05,0,1,1;qp06,0,1,1;qp07,0,1,1;", 3);
        text(x, "k80;qp08,0,1,1;", -2004);
        text(x, "k80;", 1);
    }

    private static void promise3All() {
        ClickEachTurn x = new ClickEachTurn();
        text(x, "f020;k060;r010;f60;k140;r40;f20;f021;k061;r10;r11;r39;", 12);
        Checks.due(3, "part(0)", x.part(0), 21);
        Checks.due(3, "part(1)", x.part(1), 61);
        int[] cogs = {10, 40, 10, 11, 39};
        for (int i = 0; i < 5; i++) Checks.due(3, "part(" + (10 + i) + ")", x.part(10 + i), cogs[i]);
        text(x, "qb99,9,99,99,20/20;qb00,0,01,01,01/01;qs00,0,1,1;", 3);
        int[][] faults = {{1, 99, 9, 99, 99, 0, 9}, {1, 0, 0, 1, 1, 0, 0}, {7, 0, 0, 1, 1, 0, 0}};
        for (int f = 0; f < 3; f++) {
            for (int what = 0; what < 7; what++) Checks.due(3, "fault " + f + " " + what, x.fault(f, what), faults[f][what]);
        }
        Checks.due(3, "rounds(0, 0, 0)", x.rounds(0, 0, 0), 20);
        Checks.due(3, "rounds(1, 0, 1)", x.rounds(1, 0, 1), 1);
        // A whole tape of 64 bytes, and a second text that adds to the first one's bicycle.
        ClickEachTurn y = new ClickEachTurn();
        text(y, "f020;f020;f020;f020;f020;f020;f020;f020;f020;f020;f020;f020;f22;", 13);
        text(y, "r10;", 1);
        text(y, "r20;", 1);
        Checks.due(3, "count(1)", y.count(1), 2);
        Checks.due(3, "part(0)", y.part(0), 22);
        // A fault keeps standing where it stands, and the ride stays, when the bicycle changes.
        ClickEachTurn z = Checks.bike("r10;qp50,0,1,1;");
        z.stage(0, 0, 1);
        z.stage(4, 0, 2);
        z.go();
        text(z, "qd10,0,1,1;", 1);
        Checks.due(3, "count(2)", z.count(2), 2);
        Checks.due(3, "count(3)", z.count(3), 3);
    }

    private static void promise4() {
        ClickEachTurn x = Checks.bike("f21;k99;r12;r34;");
        Checks.due(4, "part(0)", x.part(0), 21);
        Checks.due(4, "part(1)", x.part(1), 99);
        Checks.due(4, "part(10)", x.part(10), 12);
        Checks.due(4, "part(11)", x.part(11), 34);
        for (int what : new int[] {-1, 2, 9, Integer.MIN_VALUE}) {
            Checks.refused(4, "part(" + what + ")", x, -2, () -> x.part(what));
        }
        for (int what : new int[] {12, 15, Integer.MAX_VALUE}) {
            Checks.refused(4, "part(" + what + ")", x, -1, () -> x.part(what));
        }
    }

    private static void promise5() {
        ClickEachTurn x = Checks.bike("r10;qp12,3,4,5;qb23,4,5,6,7/8;ql34,5,6,7;qt45,6,7,8;", "qo56,7,8,9;qd67,8,9,10;qc78,2,10,11;qs89,0,11,12;");
        int[][] want = {{0, 12, 3, 4, 5}, {1, 23, 4, 5, 6}, {2, 34, 5, 6, 7}, {3, 45, 6, 7, 8},
            {4, 56, 7, 8, 9}, {5, 67, 8, 9, 10}, {6, 78, 2, 10, 11}, {7, 89, 0, 11, 12}};
        for (int f = 0; f < 8; f++) {
            for (int what = 0; what < 5; what++) Checks.due(5, "fault " + f + " " + what, x.fault(f, what), want[f][what]);
            Checks.due(5, "AT", x.fault(f, 5), 0);
            Checks.due(5, "LIMIT", x.fault(f, 6), want[f][2]);
        }
        for (int f : new int[] {-1, 8, Integer.MAX_VALUE, Integer.MIN_VALUE}) {
            Checks.refused(5, "fault " + f, x, -1, () -> x.fault(f, 0));
            Checks.refused(5, "fault " + f + ", what 7", x, -1, () -> x.fault(f, 7));
        }
        for (int what : new int[] {-1, 7, Integer.MAX_VALUE}) {
            Checks.refused(5, "fault(0, " + what + ")", x, -2, () -> x.fault(0, what));
        }
        limits(x);
    }

    private static void limits(ClickEachTurn x) {
        x.stage(5, 0, 19);
        x.go();
        Checks.due(5, "LIMIT after 19 turns", x.fault(6, 6), 2);
        x.drop();
        x.stage(4, 0, 1);
        x.go();
        Checks.due(5, "LIMIT after 20 turns", x.fault(6, 6), 1);
        Checks.due(5, "LIMIT of a FAULT of kind p", x.fault(0, 6), 3);
        x.drop();
        x.stage(0, 0, 20);
        x.go();
        Checks.due(5, "LIMIT after 40 turns", x.fault(6, 6), 0);
        x.go();
        Checks.due(5, "LIMIT after 60 turns", x.fault(6, 6), 0);
        Checks.due(5, "LOAD after 60 turns", x.fault(6, 2), 2);
    }

    private static void promise6() {
        ClickEachTurn x = Checks.bike("f44;k110;r22;r11;qp00,0,1,1;qb00,0,1,1,6/4;ql00,0,1,1;", "qt00,0,1,1;qo00,0,1,1;qd00,0,1,1;", "qc00,0,1,1;qs00,0,1,1;");
        int[] up = {1, 6, 44, 44, 1, 1, 1, 1};
        int[] down0 = {1, 4, 110, 22, 1, 1, 1, 1};
        int[] down1 = {1, 4, 110, 11, 1, 1, 1, 1};
        for (int f = 0; f < 8; f++) {
            Checks.due(6, "UP of " + f, x.rounds(f, 0, 0), up[f]);
            Checks.due(6, "DOWN of " + f, x.rounds(f, 0, 1), down0[f]);
            Checks.due(6, "DOWN of " + f + " in gear 1", x.rounds(f, 1, 1), down1[f]);
        }
        Checks.refused(6, "no such fault", x, -1, () -> x.rounds(8, 0, 0));
        Checks.refused(6, "no such fault", x, -1, () -> x.rounds(-1, 0, 2));
        Checks.refused(6, "no such gear", x, -1, () -> x.rounds(0, 2, 0));
        Checks.refused(6, "no such gear", x, -1, () -> x.rounds(3, -1, 2));
        Checks.refused(6, "no such part", x, -2, () -> x.rounds(3, 1, 2));
        Checks.refused(6, "no such part", x, -2, () -> x.rounds(3, 1, -1));
    }

    private static void promise7() {
        ClickEachTurn x = new ClickEachTurn();
        for (int hill : new int[] {0, 3, 9}) {
            x.set(0, hill);
            for (int step = 0; step < 100; step++) {
                boolean left = step >= 15 && step < 35;
                boolean push = left || step >= 65 && step < 85;
                int[] want = {push ? 6 + hill : 2, push ? 8 + hill : 1, push ? 5 + hill : 1, left ? 6 + hill : 2, 0, 0};
                for (int act = 0; act < 6; act++) Checks.due(7, "load(" + act + ", " + step + ")", x.load(act, step), want[act]);
            }
        }
        for (int act : new int[] {-1, 6, Integer.MAX_VALUE, Integer.MIN_VALUE}) {
            Checks.refused(7, "no such act", x, -1, () -> x.load(act, 0));
            Checks.refused(7, "no such act", x, -1, () -> x.load(act, -1));
        }
        Checks.refused(7, "step -1", x, -4, () -> x.load(5, -1));
        Checks.refused(7, "step 100", x, -6, () -> x.load(4, 100));
    }

    private static void promise8() {
        ClickEachTurn x = new ClickEachTurn();
        int[] first = {0, 0, 0, 30};
        int[] most = {9, 1, 100, 99};
        for (int what = 0; what < 4; what++) {
            int w = what;
            Checks.due(8, "set(" + w + ") to the greatest", x.set(w, most[w]), first[w]);
            Checks.refused(8, "set(" + w + ") above", x, -6, () -> x.set(w, most[w] + 1));
            Checks.refused(8, "set(" + w + ") below", x, -4, () -> x.set(w, -1));
            Checks.due(8, "set(" + w + ") to the least", x.set(w, 0), most[w]);
            Checks.due(8, "set(" + w + ") again", x.set(w, 1), 0);
        }
        for (int what : new int[] {-1, 4, Integer.MAX_VALUE, Integer.MIN_VALUE}) {
            Checks.refused(8, "no such setting", x, -2, () -> x.set(what, -1));
        }
    }

    private static void promise9() {
        ClickEachTurn x = Checks.bike("r10;qd50,0,1,1;qp50,0,1,1;qd20,0,1,1;");
        x.stage(0, 0, 40);
        Checks.due(9, "count(4) never oiled", x.count(4), -9);
        Checks.due(9, "counts(0) never oiled", x.counts(0), 40);
        Checks.due(9, "oil()", x.oil(), 2);
        Checks.due(9, "count(4) just oiled", x.count(4), 0);
        Checks.due(9, "silent for 30 turns of 40", x.counts(0), 10);
        Checks.due(9, "its first click", x.when(0, 0), 3049);
        Checks.due(9, "others are not oiled", x.counts(1), 40);
        x.set(3, 39);
        Checks.due(9, "silent for 39 turns", x.counts(2), 1);
        x.set(3, 0);
        Checks.due(9, "silent for none", x.counts(2), 40);
        x.set(3, 99);
        x.go();
        Checks.due(9, "count(4) after 40", x.count(4), 40);
        x.go();
        Checks.due(9, "silent till turn 99", x.counts(0), 21);
        Checks.due(9, "oil() again", x.oil(), 2);
        Checks.due(9, "count(4)", x.count(4), 0);
        Checks.due(9, "silent again", x.counts(0), 0);
        Checks.due(9, "oil() with none", Checks.bike("r10;qp00,0,1,1;").oil(), 0);
    }
}
