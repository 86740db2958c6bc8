/** Promises 26 to 33: danger, taking apart, told rows, the image and what is counted. */
public final class OrderTest {
    public static void main(String[] args) {
        danger();
        everyDanger();
        least();
        leastOfEqual();
        leastSizes();
        heaviest();
        row();
        judged();
        judgedByGreatest();
        judgedOfEight();
        held();
        heldStays();
        heldSizes();
        imageOfNothing();
        imageKeepsAll();
        imageKeepsCuts();
        imageStaysAsItWas();
        staying();
        newerImage();
        fullImage();
        counts();
        countsOfFull();
        refusalsAreCounted();
        uptoTheLastCall();
        Checks.finish("OrderTest");
    }

    private static void danger() {
        ClickEachTurn x = Checks.bike("r10;qc00,2,1,1;qp00,2,1,1;qc00,0,1,1;qc00,9,1,1;");
        Checks.due(26, "40 more", x.danger(0), 40);
        Checks.due(26, "it is", x.danger(2), 0);
        Checks.due(26, "180 more", x.danger(3), 180);
        Checks.due(26, "not cracked", x.danger(1), -3);
        x.stage(0, 0, 39);
        x.go();
        Checks.due(26, "one more", x.danger(0), 1);
        Checks.due(26, "its limit", x.fault(0, 6), 1);
        x.drop();
        x.stage(5, 0, 1);
        x.go();
        Checks.due(26, "now", x.danger(0), 0);
        Checks.due(26, "its limit", x.fault(0, 6), 0);
        x.go();
        Checks.due(26, "still", x.danger(0), 0);
        Checks.due(26, "139 more", x.danger(3), 139);
    }

    private static void everyDanger() {
        for (int load = 0; load <= 9; load++) {
            ClickEachTurn x = Checks.bike("r10;qc00," + load + ",1,1;");
            x.stage(1, 0, 7);
            for (int ridden = 0; ridden <= 189; ridden += 7) {
                Checks.due(26, "LOAD " + load + " behind " + ridden, x.danger(0), Math.max(0, 20 * load - ridden));
                x.go();
            }
        }
        String kinds = "pltods";
        for (int k = 0; k < kinds.length(); k++) {
            Checks.due(26, "not cracked, " + kinds.charAt(k), Checks.bike("q" + kinds.charAt(k) + "00,1,1,1;").danger(0), -3);
        }
        Checks.due(26, "a ball", Checks.bike("qb00,1,1,1,1/1;").danger(0), -3);
    }

    private static void order(ClickEachTurn x, int sum, int... order) {
        Checks.due(27, "the least sum", x.least(-1), sum);
        for (int i = 0; i < order.length; i++) Checks.due(27, "the order's " + i, x.least(i), order[i]);
        Checks.due(27, "behind the order", x.least(order.length), -9);
        Checks.due(27, "far behind", x.least(Integer.MAX_VALUE), -9);
        Checks.due(27, "below", x.least(-2), -4);
    }

    private static void least() {
        order(Checks.bike("qp00,0,5,10;qp50,0,50,10;qd99,0,1,1;"), 616, 1, 2, 0);
        order(Checks.bike("qp00,0,99,99;"), 9801, 0);
        order(Checks.bike("qp00,0,1,9;qp00,0,2,2;qp00,0,1,1;qp00,0,9,1;"), 9 + 2 * 3 + 4 + 13, 3, 1, 2, 0);
        // By weight alone or by minutes alone the order would be another.
        order(Checks.bike("qp00,0,9,99;qp00,0,1,10;qp00,0,5,40;"), 5 * 40 + 1 * 50 + 9 * 149, 2, 1, 0);
        order(new ClickEachTurn(), 0);
    }

    /** "Of several the first by numbers": alike by minutes over weight, any order of them has the same sum. */
    private static void leastOfEqual() {
        order(Checks.bike("qp00,0,6,6;qp00,0,2,2;qp00,0,4,4;"), 36 + 16 + 48, 0, 1, 2);
        order(Checks.bike("qp00,0,2,4;qp00,0,3,6;qp00,0,1,1;qp00,0,1,2;qp00,0,2,2;"), 1 + 6 + 14 + 39 + 15, 2, 4, 0, 1, 3);
        String four = "qp00,0,3,3;qp00,0,3,3;qp00,0,3,3;qp00,0,3,3;";
        order(Checks.bike(four, "qp00,0,3,3;qp00,0,3,3;"), 9 * 21, 0, 1, 2, 3, 4, 5);
    }

    private static void leastSizes() {
        ClickEachTurn x = Checks.bike("qp00,0,1,6;qp00,0,1,5;qp00,0,1,4;qp00,0,1,3;", "qp00,0,1,2;qp00,0,1,1;");
        order(x, 1 + 3 + 6 + 10 + 15 + 21, 5, 4, 3, 2, 1, 0);
        Checks.read(x, "qp00,0,1,1;");
        for (int i : new int[] {-1, 0, 6, 7, Integer.MAX_VALUE}) Checks.due(27, "seven faults", x.least(i), -6);
        Checks.due(27, "seven faults, below", x.least(-2), -4);
        Checks.read(x, "qp00,0,1,1;");
        Checks.due(27, "eight faults", x.least(7), -6);
        Checks.due(27, "eight faults, below", x.least(-2), -4);
    }

    private static void heaviest() {
        String heavy = "qp00,0,99,99;qp00,0,99,99;qp00,0,99,99;";
        order(Checks.bike(heavy, heavy), 99 * 99 * 21, 0, 1, 2, 3, 4, 5);
    }

    private static void row() {
        ClickEachTurn x = new ClickEachTurn();
        Checks.due(28, "row(0)", x.row(0), 1);
        Checks.due(28, "row(32767)", x.row(32767), 2);
        Checks.due(28, "row(-1)", x.row(-1), -4);
        Checks.due(28, "row(32768)", x.row(32768), -6);
        for (int i = 3; i <= 8; i++) Checks.due(28, "row(1)", x.row(1), i);
        Checks.due(28, "a ninth", x.row(1), -6);
        Checks.due(28, "a ninth below", x.row(-1), -4);
        Checks.due(28, "count(6)", x.count(6), 8);
        x.judge();
        Checks.due(28, "a first again", x.row(1), 1);
    }

    private static void judged(ClickEachTurn x, int want, int... row) {
        for (int v : row) x.row(v);
        Checks.due(29, "judge() of " + java.util.Arrays.toString(row), x.judge(), want);
        Checks.due(29, "count(6) then", x.count(6), 0);
    }

    private static void judged() {
        ClickEachTurn x = Checks.bike("r10;qp00,0,1,1;qo00,0,1,1;qp00,9,1,1;");
        judged(x, -9, 0, 0, 0);
        judged(x, 2, 0, 0, 1);
        x.stage(0, 0, 3);
        judged(x, -9, 3, 6, 0);
        judged(x, 0);
        judged(x, 0, 4);
        judged(x, 0, 2, 6, 0);
        judged(x, 1, 3);
        judged(x, 1, 3, 5, 0);
        judged(x, 1, 3, 7, 0);
        judged(x, 2, 3, 6);
        judged(x, 2, 3, 6, 1);
        judged(x, 2, 3, 6, 1, 0);
        judged(x, 3, 3, 6, 0, 0);
        judged(x, 1, 3, 7, 0, 0);
        judged(x, 3, 3, 6, 0, 1, 2, 3, 4, 5);
        judged(new ClickEachTurn(), -9);
        judged(new ClickEachTurn(), 0, 5);
        judged(new ClickEachTurn(), 0, 0);
        for (int i = 11; i <= 16; i++) Checks.due(29, "refusals", x.count(i), 0);
    }

    private static void judgedByGreatest() {
        ClickEachTurn x = Checks.bike("r10;qb00,0,1,1,20/1;qp00,9,1,1;");
        for (int i = 0; i < 8; i++) x.stage(0, 0, 60);
        judged(x, -9, 9600, 0);
        judged(x, 0, 9601, 0);
        judged(x, 0, 32767, 0);
        judged(x, 1, 9600, 32767);
    }

    private static void judgedOfEight() {
        ClickEachTurn x = Checks.faults(8);
        judged(x, -9, 0, 0, 0, 0, 0, 0, 0, 0);
        judged(x, 7, 0, 0, 0, 0, 0, 0, 0, 1);
        judged(x, 7, 0, 0, 0, 0, 0, 0, 0);
        judged(x, 0);
        ClickEachTurn y = Checks.faults(7);
        judged(y, 7, 0, 0, 0, 0, 0, 0, 0, 0);
        judged(y, -9, 0, 0, 0, 0, 0, 0, 0);
    }

    private static void held() {
        ClickEachTurn x = Checks.bike("qp00,0,5,10;qp50,0,50,10;qd99,0,1,1;");
        int[][] orders = {{0, 1, 2}, {0, 2, 1}, {1, 0, 2}, {1, 2, 0}, {2, 0, 1}, {2, 1, 0}};
        int[] sums = {50 + 1000 + 21, 50 + 11 + 1050, 500 + 100 + 21, 616, 1 + 55 + 1050, 1 + 550 + 105};
        for (int i = 0; i < orders.length; i++) {
            for (int v : orders[i]) x.row(v);
            Checks.due(30, "held()", x.held(), sums[i] - 616);
            Checks.due(30, "count(6) then", x.count(6), 0);
        }
        Checks.due(30, "no faults, no row", new ClickEachTurn().held(), 0);
        ClickEachTurn one = Checks.faults(1);
        Checks.due(30, "one fault, no row", one.held(), -3);
        one.row(0);
        Checks.due(30, "one fault", one.held(), 0);
    }

    /** A row that is refused stays; more counts may come behind it. */
    private static void heldStays() {
        ClickEachTurn x = Checks.bike("qp00,0,5,10;qp50,0,50,10;qd99,0,1,1;");
        for (int i = 0; i < 3; i++) {
            Checks.due(30, "too short by " + (3 - i), x.held(), -3);
            Checks.due(30, "it stays", x.count(6), i);
            x.row(i);
        }
        Checks.due(30, "then it is whole", x.held(), 50 + 1000 + 21 - 616);
        for (int[] row : new int[][] {{0, 1, 0}, {1, 1, 2}, {2, 1, 2}, {3, 1, 2}, {0, 3, 2}, {0, 1, 3}, {0, 1, 2, 0}, {0, 1, 34}, {32, 1, 2}}) {
            for (int v : row) x.row(v);
            Checks.due(30, "not each once", x.held(), -3);
            Checks.due(30, "it stays", x.count(6), row.length);
            x.judge();
        }
    }

    private static void heldSizes() {
        ClickEachTurn x = Checks.faults(6);
        for (int i = 0; i < 6; i++) x.row(i);
        Checks.due(30, "six faults", x.held(), 0);
        Checks.read(x, "qp00,0,1,1;");
        Checks.due(30, "seven faults, no row", x.held(), -3);
        for (int i = 6; i >= 0; i--) x.row(i);
        Checks.due(30, "seven faults", x.held(), -6);
        Checks.due(30, "it stays", x.count(6), 7);
        x.row(7);
        Checks.due(30, "seven faults, not each once", x.held(), -3);
        Checks.read(x, "qp00,0,1,1;");
        Checks.due(30, "eight faults", x.held(), -6);
        Checks.due(30, "it stays", x.count(6), 8);
        ClickEachTurn y = Checks.bike("qp00,0,1,1;qp00,0,1,1;qp00,0,1,1;qp00,0,1,1;", "qp00,0,1,1;qp00,0,2,1;");
        for (int i = 0; i < 6; i++) y.row(i);
        Checks.due(30, "six faults, the heaviest last", y.held(), 5);
    }

    private static void imageOfNothing() {
        ClickEachTurn x = new ClickEachTurn();
        Checks.due(32, "no image", x.on(), -3);
        Checks.due(31, "image of nothing", x.image(), 0);
        Checks.read(x, "f20;k60;r10;qp00,0,1,1;");
        x.oil();
        Checks.due(32, "on from nothing", x.on(), 0);
        Checks.due(32, "part(0)", x.part(0), 44);
        Checks.due(32, "part(1)", x.part(1), 108);
        Checks.due(32, "count(1)", x.count(1), 0);
        Checks.due(32, "count(4), never oiled", x.count(4), -9);
        Checks.read(x, "r10;r20;qp00,0,1,1;qt00,0,1,1;");
        Checks.due(31, "image of two", x.image(), 2);
        Checks.due(32, "on at once", x.on(), 2);
    }

    private static ClickEachTurn worn() {
        ClickEachTurn x = Checks.bike("f33;k77;r10;r13;qt50,2,3,4;qd50,1,5,6;ql33,0,1,1;");
        int[] settings = {1, 1, 2, 3};
        for (int i = 0; i < 4; i++) x.set(i, settings[i]);
        x.stage(0, 0, 7);
        x.go();
        x.oil();
        x.stage(1, 1, 8);
        x.go();
        return x;
    }

    /** "The BICYCLE, AT, TURNS, SETTINGS, the RIDE", and what goes with them: ON brings all back, twice too. */
    private static void imageKeepsAll() {
        ClickEachTurn x = worn();
        String then = Checks.view(x);
        Checks.due(31, "image()", x.image(), 3);
        Checks.same(31, "the image changed the object", then, Checks.view(x));
        for (int round = 0; round < 2; round++) {
            x.set(round, 0);
            x.set(3, 99);
            x.go();
            x.oil();
            x.drop();
            x.stage(5, 1, 1);
            Checks.read(x, "f44;k108;r40;qp00,0,1,1;");
            x.go();
            Checks.due(32, "on()", x.on(), 3);
            Checks.same(32, "on did not bring all back", then, Checks.view(x));
        }
    }

    /** AT comes back with the DOWN with which it was told, and what is added then begins at 0, told with 1. */
    private static void imageKeepsCuts() {
        ClickEachTurn x = Checks.bike("f44;r15;r22;qt00,0,1,1;");
        x.stage(0, 0, 1);
        x.go();
        x.image();
        Checks.read(x, "qt00,0,1,1;");
        x.drop();
        x.stage(0, 1, 1);
        x.go();
        Checks.due(32, "on()", x.on(), 1);
        Checks.read(x, "qt00,0,1,1;");
        Checks.due(32, "AT as then", x.fault(0, 5), 1400);
        Checks.due(32, "AT of the new one", x.fault(1, 5), 0);
        x.drop();
        x.stage(5, 1, 1);
        x.go();
        Checks.due(32, "AT told anew, cut", x.fault(0, 5), 2053);
        Checks.due(32, "AT of the new one", x.fault(1, 5), 0);
    }

    /** What comes to pass behind it does not change the image. */
    private static void imageStaysAsItWas() {
        ClickEachTurn x = Checks.bike("r15;r22;qt00,0,1,1;qc00,9,1,1;");
        x.stage(0, 0, 3);
        x.image();
        x.go();
        x.on();
        int[] got = {x.fault(0, 5), x.count(3), x.go(), x.fault(0, 5)};
        int[] want = {0, 0, 3, 1200};
        for (int i = 0; i < want.length; i++) Checks.due(32, "on, then its " + i, got[i], want[i]);
        x.on();
        Checks.due(32, "on again", x.fault(0, 5), 0);
        Checks.due(32, "turns again", x.count(3), 0);
    }

    /** "THE TAPE, the ROW and REFUSALS stay." */
    private static void staying() {
        ClickEachTurn x = worn();
        x.row(9);
        Checks.feed(x, "f20;f20;");
        x.part(-1);
        x.image();
        x.judge();
        x.bicycle();
        Checks.feed(x, "r40;");
        x.row(5);
        x.row(6);
        for (int i = 0; i < 3; i++) x.part(-1);
        Checks.due(32, "on()", x.on(), 3);
        Checks.due(32, "FRONT as then", x.part(0), 33);
        Checks.due(32, "the tape stays", x.count(5), 4);
        Checks.due(32, "the row stays", x.count(6), 2);
        Checks.due(32, "refusals stay", x.count(12), 4);
        Checks.due(32, "the tape's bytes", x.bicycle(), 1);
        Checks.due(32, "the new cog", x.part(12), 40);
        x.image();
        Checks.due(31, "the row stays behind an image", x.count(6), 2);
        Checks.due(31, "refusals stay behind an image", x.count(12), 4);
    }

    private static void newerImage() {
        ClickEachTurn x = Checks.faults(1);
        x.image();
        Checks.read(x, "qp00,0,1,1;");
        Checks.due(31, "a newer image", x.image(), 2);
        Checks.read(x, "qp00,0,1,1;");
        Checks.due(32, "on from the newer", x.on(), 2);
        Checks.due(32, "on from the newer, again", x.on(), 2);
    }

    private static ClickEachTurn full() {
        String four = "qt50,2,3,4;ql50,2,3,4;qd50,2,3,4;qc50,9,3,4;";
        ClickEachTurn x = Checks.bike("r10;r11;r12;r13;r14;", four, four);
        for (int i = 0; i < 8; i++) x.stage(i % 6, i % 5, 1 + i);
        return x;
    }

    /** All eight faults, all five cogs and all eight stages come back. */
    private static void fullImage() {
        ClickEachTurn x = full();
        Checks.due(31, "image of eight", x.image(), 8);
        x.go();
        x.drop();
        x.stage(1, 0, 60);
        x.go();
        Checks.due(32, "on of eight", x.on(), 8);
        Checks.same(32, "on did not bring all of the full one back", Checks.view(full()), Checks.view(x));
        x.go();
        ClickEachTurn twin = full();
        twin.go();
        Checks.same(32, "from it all goes on otherwise", Checks.view(twin), Checks.view(x));
    }

    private static void counts() {
        ClickEachTurn x = Checks.bike("r10;r20;r30;qp00,0,12,1;qd00,0,30,1;");
        x.stage(0, 0, 7);
        x.stage(0, 0, 8);
        x.go();
        x.oil();
        x.drop();
        x.stage(0, 0, 5);
        x.go();
        x.feed(3, 0);
        for (int i = 0; i < 4; i++) x.row(i);
        int[] want = {2, 3, 1, 20, 5, 3, 4, 42};
        for (int what = 0; what < want.length; what++) Checks.due(33, "count(" + what + ")", x.count(what), want[what]);
        for (int what : new int[] {-1, 8, 9, 10, 17, Integer.MAX_VALUE, Integer.MIN_VALUE}) {
            Checks.due(33, "count(" + what + ")", x.count(what), -9);
        }
        for (int what = 11; what <= 16; what++) Checks.due(33, "count(" + what + ")", x.count(what), 0);
    }

    private static void countsOfFull() {
        ClickEachTurn x = full();
        Checks.feed(x, "f020;f020;f020;f020;f020;f020;f020;f020;f020;f020;f020;f020;f20;");
        for (int i = 0; i < 8; i++) x.row(0);
        x.go();
        int[] want = {8, 5, 8, 36, -9, 64, 8, 24};
        for (int what = 0; what < want.length; what++) Checks.due(33, "count(" + what + ") of the full", x.count(what), want[what]);
    }

    private static void refusalsAreCounted() {
        ClickEachTurn x = Checks.faults(1);
        for (int i = 0; i < 1; i++) x.counts(2);
        for (int i = 0; i < 2; i++) x.part(5);
        for (int i = 0; i < 3; i++) x.danger(0);
        for (int i = 0; i < 4; i++) x.feed(0, 0);
        for (int i = 0; i < 6; i++) x.row(40000);
        int[] refused = {1, 2, 3, 4, 0, 6};
        for (int i = 0; i < 6; i++) Checks.due(33, "count(" + (11 + i) + ")", x.count(11 + i), refused[i]);
        // What answers -9, or a FAULT of the text, is no refusal.
        x.count(99);
        x.when(0, 3);
        x.twos(0, 0, 0);
        x.least(9);
        x.judge();
        x.bicycle();
        Checks.read(x, "f0;");
        for (int i = 0; i < 6; i++) Checks.due(33, "count(" + (11 + i) + ") then", x.count(11 + i), refused[i]);
    }

    /** An object is good for 512 calls, whatever they are. */
    private static void uptoTheLastCall() {
        // Two calls feed it, one reads it.
        ClickEachTurn x = Checks.bike("r10;qp00,0,1,1;");
        x.stage(0, 0, 1);
        for (int i = 5; i < 512; i++) Checks.due(17, "go() as call " + i, x.go(), i - 4);
        Checks.due(33, "call 512", x.count(3), 507);
    }
}
