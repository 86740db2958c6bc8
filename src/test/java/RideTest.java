/** Promises 10 to 17: stages, rides in mind, what is heard, and rides that come to pass. */
public final class RideTest {
    public static void main(String[] args) {
        promise10();
        promise11();
        promise12();
        promise13Places();
        promise13Loads();
        promise13Rounds();
        promise13Kinds();
        promise13Mind();
        promise14();
        promise15();
        promise16();
        promise17();
        promise17At();
        promise17Back();
        Checks.finish("RideTest");
    }

    private static void promise10() {
        ClickEachTurn x = Checks.bike("r10;r20;");
        Checks.due(10, "stage(0, 0, 1)", x.stage(0, 0, 1), 1);
        Checks.due(10, "stage(5, 1, 60)", x.stage(5, 1, 60), 2);
        Checks.refused(10, "no such act", x, -1, () -> x.stage(-1, 0, 1));
        Checks.refused(10, "no such act", x, -1, () -> x.stage(6, 0, 0));
        Checks.refused(10, "no such gear", x, -1, () -> x.stage(0, -1, 61));
        Checks.refused(10, "no such gear", x, -1, () -> x.stage(0, 2, 1));
        Checks.refused(10, "no turns", x, -4, () -> x.stage(0, 0, 0));
        Checks.refused(10, "turns below", x, -4, () -> x.stage(0, 0, Integer.MIN_VALUE));
        Checks.refused(10, "61 turns", x, -6, () -> x.stage(0, 0, 61));
        for (int i = 3; i <= 8; i++) Checks.due(10, "stage", x.stage(0, 0, 2), i);
        Checks.refused(10, "a ninth", x, -6, () -> x.stage(0, 0, 1));
        Checks.refused(10, "a ninth of no turns", x, -4, () -> x.stage(0, 0, 0));
        Checks.refused(10, "a ninth in no gear", x, -1, () -> x.stage(0, 5, 0));
        ClickEachTurn y = new ClickEachTurn();
        Checks.refused(10, "no cogs", y, -1, () -> y.stage(0, 0, 1));
    }

    private static void promise11() {
        ClickEachTurn x = Checks.bike("r10;r20;");
        Checks.refused(11, "no stages", x, -1, () -> x.stageOf(0, 0));
        x.stage(3, 1, 17);
        x.stage(0, 0, 60);
        Checks.due(11, "ACT", x.stageOf(0, 0), 3);
        Checks.due(11, "GEAR", x.stageOf(0, 1), 1);
        Checks.due(11, "TURNS", x.stageOf(0, 2), 17);
        Checks.due(11, "TURNS of the second", x.stageOf(1, 2), 60);
        Checks.refused(11, "no such stage", x, -1, () -> x.stageOf(2, 0));
        Checks.refused(11, "no such stage", x, -1, () -> x.stageOf(-1, 3));
        Checks.refused(11, "other", x, -2, () -> x.stageOf(0, 3));
        Checks.refused(11, "other", x, -2, () -> x.stageOf(1, -1));
    }

    private static void promise12() {
        ClickEachTurn x = Checks.bike("r10;qp00,0,1,1;");
        Checks.due(12, "drop of none", x.drop(), 0);
        x.stage(0, 0, 5);
        x.stage(0, 0, 5);
        Checks.due(12, "drop of two", x.drop(), 2);
        Checks.due(12, "count(2)", x.count(2), 0);
        Checks.due(12, "counts(0)", x.counts(0), 0);
        Checks.due(12, "drop again", x.drop(), 0);
        Checks.due(12, "stage", x.stage(0, 0, 7), 1);
        Checks.due(12, "the new one's turns", x.stageOf(0, 2), 7);
    }

    /** One that goes a round a turn comes to its place in the step ahead of it. */
    private static void promise13Places() {
        String[] places = {"00", "01", "15", "16", "35", "36", "65", "66", "85", "86", "99"};
        int[] steps = {99, 0, 14, 15, 34, 35, 64, 65, 84, 85, 98};
        int[] underPush = {0, 0, 0, 1, 1, 0, 0, 1, 1, 0, 0};
        for (int i = 0; i < places.length; i++) {
            ClickEachTurn x = Checks.bike("r10;qp" + places[i] + ",0,1,1;qp" + places[i] + ",6,1,1;");
            x.stage(0, 0, 3);
            Checks.due(13, "place " + places[i], x.counts(0), 3);
            Checks.due(13, "its step", x.when(0, 0), steps[i]);
            Checks.due(13, "under a push alone", x.counts(1), 3 * underPush[i]);
        }
    }

    /** How often a fault of this load at a place clicks in a turn of each act. */
    private static void promise13Loads() {
        int[] inPush = {6, 8, 5, 6, -1, -1};
        int[] else_ = {2, 1, 1, 2, -1, -1};
        for (int load = 0; load <= 9; load++) {
            ClickEachTurn x = Checks.bike("r10;qp20," + load + ",1,1;qp70," + load + ",1,1;qp50," + load + ",1,1;");
            for (int act = 0; act < 6; act++) {
                x.drop();
                x.stage(act, 0, 1);
                int right = act == 3 ? else_[act] : inPush[act];
                Checks.due(13, "left, load " + load + " act " + act, x.counts(0), load <= inPush[act] ? 1 : 0);
                Checks.due(13, "right, load " + load + " act " + act, x.counts(1), load <= right ? 1 : 0);
                Checks.due(13, "else, load " + load + " act " + act, x.counts(2), load <= else_[act] ? 1 : 0);
            }
            x.drop();
            x.stage(0, 0, 1);
            x.set(0, 2);
            Checks.due(13, "on a hill, load " + load, x.counts(0), load <= 8 ? 1 : 0);
            Checks.due(13, "else on a hill, load " + load, x.counts(2), load <= 2 ? 1 : 0);
        }
    }

    private static void promise13Rounds() {
        ClickEachTurn x = Checks.bike("f40;k120;r20;r10;qb10,0,1,1,5/2;ql50,0,1,1;qt00,0,1,1;");
        x.stage(0, 0, 2);
        Checks.due(13, "a ball's five in two turns", x.counts(0), 5);
        int[] steps = {3, 43, 83, 123, 163};
        for (int i = 0; i < 5; i++) Checks.due(13, "a ball's click " + i, x.when(0, i), steps[i]);
        Checks.due(13, "a link's half round", x.when(1, 0), 149);
        Checks.due(13, "a tooth's four", x.counts(2), 4);
        Checks.due(13, "a tooth's first", x.when(2, 0), 49);
        x.drop();
        x.stage(0, 1, 2);
        Checks.due(13, "a tooth's eight", x.counts(2), 8);
        // It comes to a part at the end of a step, or goes over it in the midst of one.
        ClickEachTurn y = Checks.bike("r10;qb10,0,1,1,5/1;qb11,0,1,1,5/1;", "qb00,0,1,1,20/1;qb01,0,1,1,20/1;");
        y.stage(1, 0, 1);
        Checks.due(13, "comes to 10 by fives", y.when(0, 0), 1);
        Checks.due(13, "goes over 11 by fives", y.when(1, 0), 2);
        Checks.due(13, "comes round by twenties", y.when(2, 0), 4);
        Checks.due(13, "goes over 1 by twenties", y.when(3, 0), 0);
        Checks.due(13, "twenty in a turn", y.counts(3), 20);
        Checks.due(13, "the last of twenty", y.when(2, 19), 99);
    }

    private static void promise13Kinds() {
        ClickEachTurn x = Checks.bike("r10;qo33,2,1,1;qo00,3,1,1;qo00,0,1,1;qs50,0,1,1;qc20,7,1,1;");
        x.stage(3, 0, 2);
        Checks.due(13, "loose at 2, LEFT", x.counts(0), 4);
        Checks.due(13, "loose at 3, LEFT", x.counts(1), 2);
        Checks.due(13, "its second", x.when(1, 1), 125);
        Checks.due(13, "right ones too", x.when(0, 1), 75);
        x.drop();
        x.stage(5, 0, 2);
        x.stage(4, 0, 3);
        Checks.due(13, "loose at 0 clicks in each act", x.counts(2), 10);
        Checks.due(13, "loose at 2 does not", x.counts(0), 0);
        x.drop();
        x.stage(0, 0, 60);
        Checks.due(13, "struck", x.counts(3), 60);
        x.set(1, 1);
        Checks.due(13, "struck, the other shoe", x.counts(3), 0);
        x.set(1, 0);
        Checks.due(13, "a crack grows in the ride, sitting", x.counts(4), 40);
        Checks.due(13, "from turn 20 on", x.when(4, 0), 2019);
        x.go();
        Checks.due(13, "and is no smaller then", x.counts(4), 60);
        acrossStages();
        Checks.refused(13, "no such fault", x, -1, () -> x.counts(5));
        Checks.refused(13, "no such fault", x, -1, () -> x.counts(-1));
    }

    /** Cracks grow and oil wears off from stage to stage of one ride. */
    private static void acrossStages() {
        ClickEachTurn x = Checks.bike("r10;qc20,9,1,1;qd50,0,1,1;");
        x.stage(5, 0, 19);
        x.stage(1, 0, 3);
        x.oil();
        x.set(3, 20);
        Checks.due(13, "a crack in the second stage", x.counts(0), 2);
        Checks.due(13, "its first click", x.when(0, 0), 2019);
        Checks.due(13, "oil in the second stage", x.counts(1), 2);
        Checks.due(13, "the first click without it", x.when(1, 0), 2049);
    }

    /** What is in mind leaves all as it was. */
    private static void promise13Mind() {
        ClickEachTurn x = Checks.bike("f33;r10;r13;qt50,0,1,1;ql50,0,1,1;qb50,0,1,1,7/3;");
        x.stage(0, 1, 7);
        x.go();
        String before = Checks.view(x);
        for (int f = 0; f < 3; f++) {
            x.counts(f);
            x.stageCounts(f, 0, 0, 9);
            x.when(f, 3);
        }
        x.heard(1);
        x.fit(3, 1);
        x.odds(0, 3, 9999, 1);
        x.twos(3, 3, 0);
        x.apart(0, 1);
        x.tells(7, 0);
        x.length(0, 1, 0, 0, 5);
        x.beat(0, 1, 0);
        x.away(0);
        x.least(0);
        Checks.same(13, "what is in mind changed the object", before, Checks.view(x));
    }

    private static void promise14() {
        ClickEachTurn x = Checks.bike("r10;r22;qp33,0,1,1;qt00,0,1,1;");
        x.stage(0, 0, 60);
        Checks.due(14, "in a stage of its own", x.stageCounts(0, 0, 0, 7), 7);
        Checks.due(14, "44 teeth by 22", x.stageCounts(1, 0, 1, 7), 14);
        Checks.due(14, "44 teeth by 10", x.stageCounts(1, 1, 0, 5), 22);
        Checks.due(14, "backwards", x.stageCounts(0, 4, 0, 60), 0);
        Checks.due(14, "coasting", x.stageCounts(0, 5, 0, 60), 0);
        x.drop();
        x.stage(1, 0, 1);
        x.go();
        // AT is 400 of 1000 now: from there two turns of 4400 come by the start nine times.
        Checks.due(14, "from where it stands now", x.stageCounts(1, 1, 0, 2), 9);
        Checks.refused(14, "no such fault", x, -1, () -> x.stageCounts(2, 0, 0, 1));
        Checks.refused(14, "no such act", x, -1, () -> x.stageCounts(0, 6, 0, 0));
        Checks.refused(14, "no such gear", x, -1, () -> x.stageCounts(0, 0, 2, 61));
        Checks.refused(14, "no turns", x, -4, () -> x.stageCounts(0, 0, 0, 0));
        Checks.refused(14, "61 turns", x, -6, () -> x.stageCounts(0, 0, 0, 61));
        Checks.due(14, "60 turns", x.stageCounts(0, 0, 0, 60), 60);
        Checks.due(14, "1 turn", x.stageCounts(0, 0, 0, 1), 1);
    }

    private static void promise15() {
        ClickEachTurn x = Checks.bike("r10;qp33,0,1,1;");
        Checks.due(15, "no ride", x.when(0, 0), -9);
        x.stage(0, 0, 2);
        x.stage(5, 0, 3);
        x.stage(1, 0, 1);
        Checks.due(15, "first", x.when(0, 0), 32);
        Checks.due(15, "second", x.when(0, 1), 132);
        Checks.due(15, "third, behind the coast", x.when(0, 2), 532);
        Checks.due(15, "no fourth", x.when(0, 3), -9);
        Checks.due(15, "the greatest", x.when(0, Integer.MAX_VALUE), -9);
        Checks.refused(15, "no such fault", x, -1, () -> x.when(1, -1));
        Checks.refused(15, "below", x, -4, () -> x.when(0, -1));
        Checks.refused(15, "far below", x, -4, () -> x.when(0, -9));
    }

    private static void promise16() {
        ClickEachTurn x = Checks.bike("r10;qp33,0,1,1;qp33,0,1,1;qo00,0,1,1;");
        Checks.due(16, "no ride", x.heard(5), 0);
        x.stage(0, 0, 25);
        Checks.due(16, "no slips", x.heard(5), 100);
        for (int slips : new int[] {1, 30, 50, 99, 100}) {
            x.set(2, slips);
            for (int z : new int[] {0, 1, -1, 5, Integer.MAX_VALUE, Integer.MIN_VALUE}) {
                int seed = z;
                int heard = 0;
                for (int i = 0; i < 100; i++) {
                    seed = (int) (seed * 1664525L + 1013904223L);
                    if (((seed << 1) >>> 1) / 256 % 100 >= slips) heard++;
                }
                Checks.due(16, "heard(" + z + ") with slips " + slips, x.heard(z), heard);
            }
        }
        Checks.due(16, "all slip", x.heard(7), 0);
    }

    private static void promise17() {
        ClickEachTurn x = Checks.bike("r10;qp33,0,1,1;");
        Checks.refused(17, "no stages", x, -3, x::go);
        for (int i = 0; i < 8; i++) x.stage(i % 6, 0, 60);
        for (int i = 1; i <= 20; i++) Checks.due(17, "go()", x.go(), 480 * i);
        Checks.refused(17, "above 9999", x, -6, x::go);
        x.drop();
        for (int i = 0; i < 6; i++) x.stage(0, 0, 60);
        x.stage(0, 0, 39);
        Checks.due(17, "up to 9999", x.go(), 9999);
        Checks.due(17, "count(3)", x.count(3), 9999);
        Checks.due(17, "the ride stays", x.count(2), 7);
        x.drop();
        Checks.refused(17, "no stages", x, -3, x::go);
        x.stage(0, 0, 1);
        Checks.refused(17, "one above 9999", x, -6, x::go);
        Checks.due(17, "in mind it goes on", x.counts(0), 1);
    }

    private static void promise17At() {
        ClickEachTurn x = Checks.bike("r15;r22;qt00,0,1,1;ql00,0,1,1;qb00,0,1,1,7/3;qo10,0,1,1;");
        x.stage(0, 0, 1);
        x.go();
        Checks.due(17, "AT in gear 0", x.fault(0, 5), 1400);
        Checks.due(17, "AT of a link", x.fault(1, 5), 4400);
        Checks.due(17, "AT of a ball", x.fault(2, 5), 100);
        x.drop();
        x.stage(5, 1, 1);
        x.go();
        Checks.due(17, "AT told anew for gear 1, cut", x.fault(0, 5), 2053);
        Checks.read(x, "k60;");
        Checks.due(17, "AT of a link stays till a stage begins", x.fault(1, 5), 4400);
        x.go();
        Checks.due(17, "AT of a link told anew, cut", x.fault(1, 5), 2444);
        x.drop();
        x.stage(2, 0, 1);
        x.go();
        // 2053 of 2200 is 1399 of 1500, cut; 4400 on is 5799, gone round 1299.
        Checks.due(17, "AT in gear 0 again", x.fault(0, 5), 1299);
        Checks.due(17, "AT of a link", x.fault(1, 5), 844);
        Checks.due(17, "AT of a ball", x.fault(2, 5), 200);
        Checks.due(17, "AT of a loose one", x.fault(3, 5), 0);
    }

    /** Only p, d, c and s go back, and none coasts; a whole turn brings them back to where they stood. */
    private static void promise17Back() {
        ClickEachTurn x = Checks.bike("r15;qb00,0,1,1,7/3;ql00,0,1,1;qt00,0,1,1;qp00,0,1,1;");
        x.stage(0, 0, 1);
        x.go();
        int[] at = {100, 4400, 1400, 0};
        x.drop();
        x.stage(4, 0, 7);
        x.stage(5, 0, 7);
        Checks.due(17, "go()", x.go(), 15);
        for (int f = 0; f < 4; f++) Checks.due(17, "AT of " + f, x.fault(f, 5), at[f]);
        for (int f = 0; f < 4; f++) Checks.due(17, "clicks of " + f, x.counts(f), 0);
    }
}
