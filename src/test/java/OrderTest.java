/** Promises 26 to 33: danger, taking apart, told rows, the image and what is counted. */
public final class OrderTest {
    public static void main(String[] args) {
        promise26();
        promise27();
        promise27Sizes();
        promise28();
        promise29();
        promise30();
        promise31And32();
        promise32Whole();
        promise33();
        Checks.finish("OrderTest");
    }

    private static void promise26() {
        ClickEachTurn x = Checks.bike("r10;qc00,2,1,1;qp00,2,1,1;qc00,0,1,1;qc00,9,1,1;");
        Checks.due(26, "40 more", x.danger(0), 40);
        Checks.due(26, "it is", x.danger(2), 0);
        Checks.due(26, "180 more", x.danger(3), 180);
        x.stage(0, 0, 39);
        x.go();
        Checks.due(26, "one more", x.danger(0), 1);
        Checks.due(26, "its limit", x.fault(0, 6), 1);
        x.drop();
        x.stage(5, 0, 1);
        x.go();
        Checks.due(26, "now", x.danger(0), 0);
        x.go();
        Checks.due(26, "still", x.danger(0), 0);
        Checks.due(26, "139 more", x.danger(3), 139);
        Checks.refused(26, "not cracked", x, -3, () -> x.danger(1));
        Checks.refused(26, "no such fault", x, -1, () -> x.danger(4));
        Checks.refused(26, "no such fault", x, -1, () -> x.danger(-1));
    }

    private static void order(ClickEachTurn x, int sum, int... order) {
        Checks.due(27, "the least sum", x.least(-1), sum);
        for (int i = 0; i < order.length; i++) Checks.due(27, "the order's " + i, x.least(i), order[i]);
        Checks.due(27, "behind the order", x.least(order.length), -9);
    }

    private static void promise27() {
        order(Checks.bike("qp00,0,5,10;qp50,0,50,10;qd99,0,1,1;"), 616, 1, 2, 0);
        order(Checks.bike("qp00,0,99,99;"), 9801, 0);
        // All alike by minutes over weight: any order has the least sum, the first is by numbers.
        order(Checks.bike("qp00,0,6,6;qp00,0,2,2;qp00,0,4,4;"), 36 + 16 + 48, 0, 1, 2);
        order(Checks.bike("qp00,0,1,9;qp00,0,2,2;qp00,0,1,1;qp00,0,9,1;"), 9 + 2 * 3 + 4 + 13, 3, 1, 2, 0);
        order(new ClickEachTurn(), 0);
        ClickEachTurn x = Checks.bike("qp00,0,5,10;qp50,0,50,10;");
        Checks.due(27, "far behind", x.least(Integer.MAX_VALUE), -9);
        Checks.refused(27, "below", x, -4, () -> x.least(-2));
        Checks.refused(27, "far below", x, -4, () -> x.least(Integer.MIN_VALUE));
    }

    private static void promise27Sizes() {
        ClickEachTurn x = Checks.bike("qp00,0,1,6;qp00,0,1,5;qp00,0,1,4;qp00,0,1,3;", "qp00,0,1,2;qp00,0,1,1;");
        order(x, 1 + 3 + 6 + 10 + 15 + 21, 5, 4, 3, 2, 1, 0);
        Checks.read(x, "qp00,0,1,1;");
        for (int i : new int[] {-1, 0, 6, 7, Integer.MAX_VALUE}) {
            Checks.refused(27, "seven faults", x, -6, () -> x.least(i));
        }
        Checks.refused(27, "seven faults, below", x, -4, () -> x.least(-2));
    }

    private static void promise28() {
        ClickEachTurn x = new ClickEachTurn();
        Checks.due(28, "row(0)", x.row(0), 1);
        Checks.due(28, "row(32767)", x.row(32767), 2);
        Checks.refused(28, "below", x, -4, () -> x.row(-1));
        Checks.refused(28, "above", x, -6, () -> x.row(32768));
        for (int i = 3; i <= 8; i++) Checks.due(28, "row(1)", x.row(1), i);
        Checks.refused(28, "a ninth", x, -6, () -> x.row(1));
        Checks.refused(28, "a ninth below", x, -4, () -> x.row(-1));
        Checks.due(28, "count(6)", x.count(6), 8);
    }

    private static void judged(ClickEachTurn x, int want, int... row) {
        for (int v : row) x.row(v);
        Checks.due(29, "judge()", x.judge(), want);
        Checks.due(29, "count(6) then", x.count(6), 0);
    }

    private static void promise29() {
        ClickEachTurn x = Checks.bike("r10;qp00,0,1,1;qo00,0,1,1;qp00,9,1,1;");
        judged(x, -9, 0, 0, 0);
        x.stage(0, 0, 3);
        judged(x, -9, 3, 6, 0);
        judged(x, 0);
        judged(x, 0, 4);
        judged(x, 0, 2, 6, 0);
        judged(x, 1, 3);
        judged(x, 1, 3, 5, 0);
        judged(x, 2, 3, 6);
        judged(x, 2, 3, 6, 1);
        judged(x, 3, 3, 6, 0, 0);
        judged(x, 1, 3, 7, 0, 0);
        judged(x, 3, 3, 6, 0, 1, 2, 3, 4, 5);
        judged(new ClickEachTurn(), -9);
        judged(new ClickEachTurn(), 0, 5);
        for (int i = 11; i <= 16; i++) Checks.due(29, "refusals", x.count(i), 0);
    }

    private static void promise30() {
        ClickEachTurn x = Checks.bike("qp00,0,5,10;qp50,0,50,10;qd99,0,1,1;");
        int[][] orders = {{0, 1, 2}, {1, 0, 2}, {1, 2, 0}, {2, 0, 1}};
        int[] sums = {50 + 1000 + 21, 500 + 100 + 21, 616, 1 + 55 + 1050};
        for (int i = 0; i < orders.length; i++) {
            for (int v : orders[i]) x.row(v);
            Checks.due(30, "held()", x.held(), sums[i] - 616);
            Checks.due(30, "count(6) then", x.count(6), 0);
        }
        Checks.refused(30, "no row", x, -3, x::held);
        for (int[] row : new int[][] {{0}, {0, 1}, {0, 1, 1}, {0, 1, 3}, {0, 1, 32767}, {0, 1, 2, 0}, {0, 1, 34}}) {
            for (int v : row) x.row(v);
            Checks.refused(30, "not each once", x, -3, x::held);
            Checks.due(30, "it stays", x.count(6), row.length);
            x.judge();
        }
        Checks.due(30, "no faults, no row", new ClickEachTurn().held(), 0);
        tooManyHeld();
    }

    private static void tooManyHeld() {
        String four = "qp00,0,1,1;qp00,0,1,1;qp00,0,1,1;qp00,0,1,1;";
        ClickEachTurn x = Checks.bike(four, "qp00,0,1,1;qp00,0,2,1;");
        for (int i = 0; i < 6; i++) x.row(i);
        Checks.due(30, "six faults", x.held(), 5);
        Checks.read(x, "qp00,0,1,1;");
        Checks.refused(30, "seven faults, no row", x, -3, x::held);
        for (int i = 6; i >= 0; i--) x.row(i);
        Checks.refused(30, "seven faults", x, -6, x::held);
        Checks.due(30, "it stays", x.count(6), 7);
        x.row(7);
        Checks.refused(30, "seven faults, not each once", x, -3, x::held);
        Checks.read(x, "qp00,0,1,1;");
        Checks.refused(30, "eight faults", x, -6, x::held);
    }

    private static void promise31And32() {
        ClickEachTurn x = new ClickEachTurn();
        Checks.refused(32, "no image", x, -3, x::on);
        Checks.due(31, "image of nothing", x.image(), 0);
        Checks.read(x, "f20;k60;r10;qp00,0,1,1;");
        Checks.due(32, "on from nothing", x.on(), 0);
        Checks.due(32, "part(0)", x.part(0), 44);
        Checks.due(32, "part(1)", x.part(1), 108);
        Checks.due(32, "count(1)", x.count(1), 0);
        Checks.read(x, "r10;r20;qp00,0,1,1;qt00,0,1,1;");
        Checks.due(31, "image of two", x.image(), 2);
        Checks.due(32, "on at once", x.on(), 2);
    }

    private static void promise32Whole() {
        ClickEachTurn x = Checks.bike("f33;k77;r10;r13;qt50,2,3,4;qd50,1,5,6;");
        x.set(0, 1);
        x.set(1, 1);
        x.set(2, 2);
        x.set(3, 3);
        x.stage(0, 0, 7);
        x.go();
        x.oil();
        x.stage(1, 1, 8);
        x.go();
        String then = Checks.view(x);
        Checks.due(31, "image()", x.image(), 2);
        Checks.same(31, "the image changed the object", then, Checks.view(x));
        for (int round = 0; round < 2; round++) {
            x.set(round, 0);
            x.set(3, 99);
            x.go();
            x.oil();
            x.drop();
            x.stage(5, 1, 1);
            Checks.read(x, "f44;k108;r40;qp00,0,1,1;");
            x.go();
            Checks.due(32, "on()", x.on(), 2);
            Checks.same(32, "on did not bring all back", then, Checks.view(x));
        }
        staying(x, then);
    }

    /** The tape, the row and the refusals stay as they are. */
    private static void staying(ClickEachTurn x, String then) {
        Checks.feed(x, "r40;");
        x.row(5);
        x.row(6);
        x.part(-1);
        int refused = x.count(12);
        x.on();
        Checks.due(32, "the tape stays", x.count(5), 4);
        Checks.due(32, "the row stays", x.count(6), 2);
        Checks.due(32, "refusals stay", x.count(12), refused);
        Checks.due(32, "the tape's bytes", x.bicycle(), 1);
        Checks.due(32, "the new cog", x.part(12), 40);
        x.judge();
        x.on();
        Checks.same(32, "on did not bring all back", then, Checks.view(x));
    }

    private static void promise33() {
        ClickEachTurn x = Checks.bike("r10;r20;r30;qp00,0,12,1;qd00,0,30,1;");
        x.stage(0, 0, 7);
        x.stage(0, 0, 8);
        x.go();
        x.oil();
        x.drop();
        x.stage(0, 0, 5);
        x.go();
        x.feed(3, 0);
        for (int i = 0; i < 4; i++) x.row(i);
        int[] want = {2, 3, 1, 20, 5, 3, 4, 42};
        for (int what = 0; what < want.length; what++) Checks.due(33, "count(" + what + ")", x.count(what), want[what]);
        for (int what : new int[] {-1, 8, 9, 10, 17, Integer.MAX_VALUE, Integer.MIN_VALUE}) {
            Checks.due(33, "count(" + what + ")", x.count(what), -9);
        }
        for (int i = 0; i < 1; i++) x.counts(2);
        for (int i = 0; i < 2; i++) x.part(5);
        for (int i = 0; i < 3; i++) x.danger(0);
        for (int i = 0; i < 4; i++) x.feed(0, 0);
        for (int i = 0; i < 6; i++) x.row(40000);
        int[] refused = {1, 2, 3, 4, 0, 6};
        for (int i = 0; i < 6; i++) Checks.due(33, "count(" + (11 + i) + ")", x.count(11 + i), refused[i]);
    }
}
