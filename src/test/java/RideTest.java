/** Promises 10 to 17: stages, rides in mind, what is heard, and rides that come to pass. */
public final class RideTest {
    private static final int INVERSE = inverseOf(1664525);

    public static void main(String[] args) {
        stages();
        stagesTold();
        drops();
        everyPlace();
        everyBall();
        wholeRounds();
        standingOnIt();
        underPushes();
        limitsOfEachAct();
        teethAndLinks();
        loose();
        struck();
        cracksInARide();
        cracksOfAllRides();
        acrossStages();
        inMind();
        stageCounts();
        when();
        longestRide();
        heard();
        draws();
        drawForEachClick();
        goes();
        goesOnRound();
        goesOnCut();
        goesBack();
        fullGoes();
        Checks.finish("RideTest");
    }

    private static void stages() {
        ClickEachTurn x = Checks.bike("r10;r20;");
        Checks.due(10, "stage(0, 0, 1)", x.stage(0, 0, 1), 1);
        Checks.due(10, "stage(5, 1, 60)", x.stage(5, 1, 60), 2);
        Checks.due(10, "stage of 0", x.stage(0, 0, 0), -4);
        Checks.due(10, "stage of 61", x.stage(0, 0, 61), -6);
        for (int i = 3; i <= 8; i++) Checks.due(10, "stage", x.stage(i % 6, i % 2, i), i);
        Checks.due(10, "a ninth", x.stage(0, 0, 1), -6);
        for (int i = 3; i <= 8; i++) {
            int[] want = {i % 6, i % 2, i};
            for (int what = 0; what < 3; what++) Checks.due(11, "stageOf(" + (i - 1) + ", " + what + ")", x.stageOf(i - 1, what), want[what]);
        }
        Checks.due(10, "no cogs", new ClickEachTurn().stage(0, 0, 1), -1);
    }

    private static void stagesTold() {
        ClickEachTurn x = Checks.bike("r10;r20;r30;r40;r11;");
        Checks.due(11, "no stages", x.stageOf(0, 0), -1);
        x.stage(3, 1, 17);
        x.stage(5, 4, 60);
        int[][] want = {{3, 1, 17}, {5, 4, 60}};
        for (int i = 0; i < 2; i++) {
            for (int what = 0; what < 3; what++) Checks.due(11, "stageOf(" + i + ", " + what + ")", x.stageOf(i, what), want[i][what]);
        }
        Checks.due(11, "behind the last", x.stageOf(2, 0), -1);
        Checks.due(11, "other", x.stageOf(1, 3), -2);
    }

    private static void drops() {
        ClickEachTurn x = Checks.bike("r10;qp00,0,1,1;");
        Checks.due(12, "drop of none", x.drop(), 0);
        for (int n = 1; n <= 8; n++) {
            for (int i = 0; i < n; i++) x.stage(0, 0, 5);
            Checks.due(12, "drop of " + n, x.drop(), n);
            Checks.due(12, "count(2)", x.count(2), 0);
            Checks.due(12, "counts(0)", x.counts(0), 0);
            Checks.due(12, "drop again", x.drop(), 0);
            Checks.due(12, "a dropped stage", x.stageOf(0, 0), -1);
        }
        Checks.due(12, "stage", x.stage(1, 0, 7), 1);
        Checks.due(12, "the new one's turns", x.stageOf(0, 2), 7);
    }

    /** One that goes a round a turn comes to its place in the step ahead of it. */
    private static void everyPlace() {
        for (int place = 0; place <= 99; place++) {
            ClickEachTurn x = Checks.bike("r10;qp" + place / 10 + place % 10 + ",0,1,1;");
            x.stage(0, 0, 2);
            int step = place == 0 ? 99 : place - 1;
            Checks.due(13, "place " + place, x.counts(0), 2);
            Checks.due(15, "its step", x.when(0, 0), step);
            Checks.due(15, "its second step", x.when(0, 1), 100 + step);
            Checks.due(15, "its third", x.when(0, 2), -9);
        }
    }

    /**
     * A part that is p ahead is come to, or gone over, in the step behind the one in which it is
     * still ahead: p by UP, made whole upwards, less 1.
     */
    private static void everyBall() {
        int[][] rounds = {{1, 1}, {20, 1}, {1, 20}, {20, 20}, {3, 2}, {2, 3}, {7, 4}, {19, 20}, {20, 19}, {11, 5}};
        for (int[] r : rounds) {
            for (int place = 0; place <= 99; place += 3) {
                ClickEachTurn x = Checks.bike("r10;qb" + place / 10 + place % 10 + ",0,1,1," + r[0] + "/" + r[1] + ";");
                x.stage(3, 0, 12);
                x.stage(1, 0, 28);
                int n = 0;
                for (int part = place == 0 ? 100 * r[1] : place * r[1]; part <= 4000 * r[0]; part += 100 * r[1]) {
                    if (n < 40) Checks.due(15, r[0] + " by " + r[1] + " at " + place + ", click " + n, x.when(0, n), (part + r[0] - 1) / r[0] - 1);
                    n++;
                }
                Checks.due(13, r[0] + " by " + r[1] + " at " + place, x.counts(0), n);
            }
        }
    }

    /** The last step of a round, and of a turn, belongs to it: a whole number of rounds has as many clicks. */
    private static void wholeRounds() {
        ClickEachTurn x = Checks.bike("r10;qb00,0,1,1,20/1;qb01,0,1,1,20/1;qb99,0,1,1,1/20;", "qb00,0,1,1,1/20;qb05,0,1,1,1/20;");
        x.stage(0, 0, 20);
        int[] counts = {400, 400, 1, 1, 1};
        int[] first = {4, 0, 1979, 1999, 99};
        for (int f = 0; f < 5; f++) {
            Checks.due(13, "whole rounds of " + f, x.counts(f), counts[f]);
            Checks.due(15, "the first click of " + f, x.when(f, 0), first[f]);
        }
        Checks.due(15, "the last of 400", x.when(0, 399), 1999);
        x.drop();
        x.stage(0, 0, 19);
        int[] fewer = {380, 380, 0, 0, 1};
        for (int f = 0; f < 5; f++) Checks.due(13, "one turn less of " + f, x.counts(f), fewer[f]);
    }

    /** One that stands on its part has come there; it comes to it again a round later. */
    private static void standingOnIt() {
        ClickEachTurn x = Checks.bike("f30;r30;r20;qt00,0,1,1;ql00,0,1,1;");
        x.stage(0, 0, 1);
        Checks.due(15, "a tooth from its part on", x.when(0, 0), 99);
        x.go();
        Checks.due(17, "AT its part again", x.fault(0, 5), 0);
        Checks.due(15, "a tooth from its part on, again", x.when(0, 0), 99);
        Checks.due(14, "backwards it does not click", x.stageCounts(0, 4, 0, 60), 0);
        Checks.due(14, "standing it does not click", x.stageCounts(0, 5, 0, 60), 0);
    }

    /** LOAD is that of the step in which it comes by. */
    private static void underPushes() {
        int[] places = {0, 1, 15, 16, 35, 36, 65, 66, 85, 86, 99};
        int[] underPush = {0, 0, 0, 1, 1, 0, 0, 1, 1, 0, 0};
        for (int i = 0; i < places.length; i++) {
            ClickEachTurn x = Checks.bike("r10;qp" + places[i] / 10 + places[i] % 10 + ",6,1,1;");
            x.stage(0, 0, 3);
            Checks.due(13, "place " + places[i] + " under a push alone", x.counts(0), 3 * underPush[i]);
        }
    }

    /** "LOAD is its LIMIT or more": with a limit of the LOAD it clicks, with one more not. */
    private static void limitsOfEachAct() {
        int[] inPush = {6, 8, 5, 6, -1, -1};
        int[] beside = {2, 1, 1, 2, -1, -1};
        for (int limit = 0; limit <= 9; limit++) {
            for (int hill = 0; hill <= 9; hill++) {
                ClickEachTurn x = Checks.bike("r10;qp20," + limit + ",1,1;qp70," + limit + ",1,1;qp50," + limit + ",1,1;");
                x.set(0, hill);
                for (int act = 0; act < 6; act++) {
                    int more = act < 4 ? hill : 0;
                    int right = act == 3 ? beside[act] : inPush[act] + more;
                    String what = "limit " + limit + ", hill " + hill + ", act " + act;
                    Checks.due(14, "left, " + what, x.stageCounts(0, act, 0, 1), limit <= inPush[act] + more ? 1 : 0);
                    Checks.due(14, "right, " + what, x.stageCounts(1, act, 0, 1), limit <= right ? 1 : 0);
                    Checks.due(14, "beside, " + what, x.stageCounts(2, act, 0, 1), limit <= beside[act] ? 1 : 0);
                }
            }
        }
    }

    private static void teethAndLinks() {
        ClickEachTurn x = Checks.bike("f40;k120;r20;r10;ql50,0,1,1;qt00,0,1,1;");
        x.stage(0, 0, 2);
        Checks.due(15, "a link's half round", x.when(0, 0), 149);
        Checks.due(13, "a link's one", x.counts(0), 1);
        Checks.due(13, "a tooth's four", x.counts(1), 4);
        Checks.due(15, "a tooth's first", x.when(1, 0), 49);
        x.drop();
        x.stage(0, 1, 2);
        Checks.due(13, "a tooth's eight", x.counts(1), 8);
        ClickEachTurn y = Checks.bike("f60;k60;r10;r40;ql00,0,1,1;qt00,0,1,1;");
        y.stage(0, 0, 60);
        Checks.due(13, "a link's round a turn", y.counts(0), 60);
        Checks.due(13, "a tooth's six a turn", y.counts(1), 360);
        ClickEachTurn z = Checks.bike("f20;k140;r40;ql00,0,1,1;qt00,0,1,1;");
        z.stage(0, 0, 7);
        Checks.due(13, "a link's one of seven turns", z.counts(0), 1);
        Checks.due(15, "in the last step", z.when(0, 0), 699);
        Checks.due(13, "a tooth's three of seven turns", z.counts(1), 3);
    }

    /** "In STEPS 25 and 75, if LOAD there is its LIMIT or more (in each ACT)", wherever its place is. */
    private static void loose() {
        int[] left = {6, 8, 5, 6, 0, 0};
        int[] right = {6, 8, 5, 2, 0, 0};
        for (int limit = 0; limit <= 9; limit++) {
            ClickEachTurn x = Checks.bike("r10;qo33," + limit + ",1,1;");
            for (int act = 0; act < 6; act++) {
                int inLeft = limit <= left[act] ? 1 : 0;
                int inRight = limit <= right[act] ? 1 : 0;
                x.drop();
                x.stage(act, 0, 3);
                String what = "loose, limit " + limit + ", act " + act;
                Checks.due(13, what, x.counts(0), 3 * (inLeft + inRight));
                Checks.due(15, what + ", first", x.when(0, 0), inLeft == 1 ? 25 : -9);
                Checks.due(15, what + ", second", x.when(0, 1), inRight == 1 ? 75 : inLeft == 1 ? 125 : -9);
                Checks.due(15, what + ", third", x.when(0, 2), inRight == 1 ? 125 : inLeft == 1 ? 225 : -9);
            }
        }
    }

    private static void struck() {
        ClickEachTurn x = Checks.bike("r10;qs50,0,1,1;qp50,0,1,1;qo00,0,1,1;");
        x.stage(0, 0, 60);
        Checks.due(13, "struck", x.counts(0), 60);
        x.set(1, 1);
        Checks.due(13, "struck, the other shoe", x.counts(0), 0);
        Checks.due(13, "another, the other shoe", x.counts(1), 60);
        Checks.due(13, "a loose one, the other shoe", x.counts(2), 120);
        x.set(1, 0);
        Checks.due(13, "struck again", x.counts(0), 60);
    }

    /** In a ride in mind a crack grows from turn to turn: behind the 20th, 40th .. one less. */
    private static void cracksInARide() {
        ClickEachTurn x = Checks.bike("r10;qc20,7,1,1;qc50,4,1,1;");
        x.stage(0, 0, 60);
        Checks.due(13, "from turn 20 on", x.counts(0), 40);
        Checks.due(15, "its first", x.when(0, 0), 2019);
        Checks.due(13, "from turn 40 on", x.counts(1), 20);
        Checks.due(15, "its first", x.when(1, 0), 4049);
        Checks.due(14, "twenty turns tell nothing", x.stageCounts(0, 0, 0, 20), 0);
        Checks.due(14, "the next one does", x.stageCounts(0, 0, 0, 21), 1);
        x.go();
        Checks.due(13, "and is no smaller then", x.counts(0), 60);
        Checks.due(13, "nor the other", x.counts(1), 60);
    }

    /** "All of all rides": turns that came to pass and those of the stages ahead are told together. */
    private static void cracksOfAllRides() {
        for (int before = 0; before <= 20; before++) {
            ClickEachTurn x = Checks.bike("r10;qc20,9,1,1;");
            for (int i = 0; i < before; i++) {
                x.stage(i % 6, 0, 1);
                x.go();
                x.drop();
            }
            x.stage(4, 0, 1);
            x.stage(5, 0, 2);
            x.stage(1, 0, 3);
            x.stage(0, 0, 1);
            x.stage(1, 0, 20);
            // Of the turns that are stood, before + 3 .. before + 5 and before + 7 .. before + 26, those from the 20th on.
            int inThree = Math.min(3, Math.max(0, before + 6 - 20));
            int inTwenty = Math.min(20, before + 27 - 20);
            Checks.due(13, "cracked behind " + before, x.counts(0), inThree + inTwenty);
        }
    }

    /** Cracks grow and oil wears off from stage to stage of one ride. */
    private static void acrossStages() {
        ClickEachTurn x = Checks.bike("r10;qc20,9,1,1;qd50,0,1,1;");
        x.stage(5, 0, 19);
        x.stage(1, 0, 3);
        x.oil();
        x.set(3, 20);
        Checks.due(13, "a crack in the second stage", x.counts(0), 2);
        Checks.due(15, "its first click", x.when(0, 0), 2019);
        Checks.due(13, "oil in the second stage", x.counts(1), 2);
        Checks.due(15, "the first click without it", x.when(1, 0), 2049);
        x.drop();
        x.stage(5, 0, 5);
        x.go();
        x.stage(4, 0, 6);
        x.stage(1, 0, 7);
        // 5 ridden, 5 and 6 ahead: turns 16 .. 22 of all are stood.
        Checks.due(13, "a crack in the third stage", x.counts(0), 3);
        Checks.due(15, "its first click", x.when(0, 0), 1519);
        Checks.due(13, "oil in the third stage", x.counts(1), 3);
        Checks.due(15, "the first click without it", x.when(1, 0), 1549);
    }

    /** What is in mind leaves all as it was. */
    private static void inMind() {
        ClickEachTurn twin = worn();
        ClickEachTurn x = worn();
        for (int f = 0; f < 3; f++) {
            x.counts(f);
            x.stageCounts(f, 0, 0, 9);
            x.when(f, 3);
        }
        x.heard(1);
        x.fit(3, 1);
        x.odds(0, 3, 9999, 1);
        x.twos(3, 3, 0);
        x.apart(0, 1);
        x.tells(7, 0);
        x.length(0, 1, 0, 0, 5);
        x.beat(0, 1, 0);
        x.away(0);
        x.least(0);
        Checks.same(13, "what is in mind changed the object", Checks.all(twin), Checks.all(x));
    }

    private static ClickEachTurn worn() {
        ClickEachTurn x = Checks.bike("f33;r10;r13;qt50,0,1,1;ql50,0,1,1;qb50,0,1,1,7/3;");
        x.stage(0, 1, 7);
        x.go();
        return x;
    }

    private static void stageCounts() {
        ClickEachTurn x = Checks.bike("r10;r22;qp33,0,1,1;qt00,0,1,1;");
        x.stage(0, 0, 60);
        Checks.due(14, "of its own", x.stageCounts(0, 0, 0, 7), 7);
        Checks.due(14, "1 turn", x.stageCounts(0, 0, 0, 1), 1);
        Checks.due(14, "60 turns", x.stageCounts(0, 0, 0, 60), 60);
        Checks.due(14, "0 turns", x.stageCounts(0, 0, 0, 0), -4);
        Checks.due(14, "61 turns", x.stageCounts(0, 0, 0, 61), -6);
        Checks.due(14, "44 teeth by 22", x.stageCounts(1, 0, 1, 7), 14);
        Checks.due(14, "44 teeth by 10", x.stageCounts(1, 1, 0, 5), 22);
        x.drop();
        x.stage(1, 0, 1);
        x.go();
        // AT is 400 of 1000 now: from there two turns of 4400 come by the start nine times.
        Checks.due(14, "from where it stands now", x.stageCounts(1, 1, 0, 2), 9);
        Checks.due(14, "the ride does not matter", x.stageCounts(1, 1, 0, 2), 9);
        x.drop();
        Checks.due(14, "nor that there is none", x.stageCounts(1, 1, 0, 2), 9);
    }

    private static void when() {
        ClickEachTurn x = Checks.bike("r10;qp33,0,1,1;");
        Checks.due(15, "no ride", x.when(0, 0), -9);
        x.stage(0, 0, 2);
        x.stage(5, 0, 3);
        x.stage(1, 0, 1);
        int[] want = {32, 132, 532, -9, -9};
        for (int i = 0; i < want.length; i++) Checks.due(15, "when(0, " + i + ")", x.when(0, i), want[i]);
        Checks.due(15, "the greatest", x.when(0, Integer.MAX_VALUE), -9);
        Checks.due(15, "below", x.when(0, -1), -4);
        Checks.due(15, "far below", x.when(0, -9), -4);
    }

    /** Eight stages of sixty turns, each with twenty clicks. */
    private static void longestRide() {
        ClickEachTurn x = Checks.bike("r10;qb00,0,1,1,20/1;qp00,0,1,1;qc00,9,1,1;");
        for (int i = 0; i < 8; i++) x.stage(i % 4, 0, 60);
        int[] counts = {9600, 480};
        for (int f = 0; f < 2; f++) {
            Checks.due(13, "of all the turns, " + f, x.counts(f), counts[f]);
            Checks.due(15, "the last, " + f, x.when(f, counts[f] - 1), 47999);
            Checks.due(15, "behind the last, " + f, x.when(f, counts[f]), -9);
        }
        // In step 99 the LOAD is 2, 1, 1, 2 .. and the LIMIT 9 is 2 behind 140 turns, 1 behind 160.
        Checks.due(13, "cracked", x.counts(2), 320);
        Checks.due(15, "the first of a crack", x.when(2, 0), 16099);
    }

    private static void heard() {
        ClickEachTurn x = Checks.bike("r10;qp33,0,1,1;qp33,0,1,1;qo00,0,1,1;");
        Checks.due(16, "no ride", x.heard(5), 0);
        x.stage(0, 0, 25);
        for (int slips : new int[] {0, 1, 30, 50, 99, 100}) {
            x.set(2, slips);
            for (int z : new int[] {0, 1, -1, 5, Integer.MAX_VALUE, Integer.MIN_VALUE}) {
                int seed = z;
                int heard = 0;
                for (int i = 0; i < 100; i++) {
                    seed = (int) (seed * 1664525L + 1013904223L);
                    if (((seed << 1) >>> 1) / 256 % 100 >= slips) heard++;
                }
                Checks.due(16, "heard(" + z + ") with slips " + slips, x.heard(z), heard);
                if (slips == 0) Checks.due(16, "none slips", x.heard(z), 100);
                if (slips == 100) Checks.due(16, "all slip", x.heard(z), 0);
            }
        }
    }

    private static int inverseOf(int odd) {
        int inverse = 1;
        for (int i = 0; i < 5; i++) inverse *= 2 - odd * inverse;
        return inverse;
    }

    /** The seed that becomes this z in the first draw. */
    private static int seedOf(int z) {
        return (z - 1013904223) * INVERSE;
    }

    /** A single click, with a z that is at an edge: of its sign's bit, of the cut, of the hundred. */
    private static void draws() {
        int[] z = {0, 255, 256, 511, 25344, 25599, 25600, 25855, 25856, Integer.MIN_VALUE, Integer.MIN_VALUE + 255, Integer.MIN_VALUE + 256,
            Integer.MIN_VALUE + 25599, Integer.MIN_VALUE + 25600, -1, Integer.MAX_VALUE, -256, -257, Integer.MAX_VALUE - 255, Integer.MAX_VALUE - 256};
        int[] draw = {0, 0, 1, 1, 99, 99, 0, 0, 1, 0, 0, 1, 99, 0, 7, 7, 7, 6, 7, 6};
        for (int i = 0; i < z.length; i++) {
            ClickEachTurn x = Checks.bike("r10;qp33,0,1,1;");
            x.stage(0, 0, 1);
            x.set(2, draw[i]);
            Checks.due(16, "z " + z[i] + " is not below " + draw[i], x.heard(seedOf(z[i])), 1);
            x.set(2, draw[i] + 1);
            Checks.due(16, "z " + z[i] + " is below " + (draw[i] + 1), x.heard(seedOf(z[i])), 0);
        }
    }

    /** One draw for each click, heard or missed, of whatever fault; none for what is silent. */
    private static void drawForEachClick() {
        ClickEachTurn x = Checks.bike("r10;qp33,0,1,1;qs20,0,1,1;qp66,9,1,1;");
        x.stage(0, 0, 2);
        x.set(2, 50);
        for (int z = 0; z < 20; z++) {
            for (int shoe = 0; shoe <= 1; shoe++) {
                x.set(1, shoe);
                int seed = z;
                int heard = 0;
                for (int i = 0; i < (shoe == 0 ? 4 : 2); i++) {
                    seed = seed * 1664525 + 1013904223;
                    heard += (seed & Integer.MAX_VALUE) / 256 % 100 < 50 ? 0 : 1;
                }
                Checks.due(16, "heard(" + z + ") in shoe " + shoe, x.heard(z), heard);
            }
        }
    }

    private static void goes() {
        ClickEachTurn x = Checks.bike("r10;qp33,0,1,1;");
        Checks.due(17, "no stages", x.go(), -3);
        for (int i = 0; i < 8; i++) x.stage(i % 6, 0, 60);
        for (int i = 1; i <= 20; i++) Checks.due(17, "go()", x.go(), 480 * i);
        Checks.due(17, "above 9999", x.go(), -6);
        Checks.due(17, "count(3)", x.count(3), 9600);
        x.drop();
        for (int i = 0; i < 6; i++) x.stage(0, 0, 60);
        x.stage(0, 0, 40);
        Checks.due(17, "one above 9999", x.go(), -6);
        x.drop();
        for (int i = 0; i < 6; i++) x.stage(0, 0, 60);
        x.stage(0, 0, 39);
        Checks.due(17, "up to 9999", x.go(), 9999);
        Checks.due(17, "count(3)", x.count(3), 9999);
        Checks.due(17, "the ride stays", x.count(2), 7);
        x.drop();
        Checks.due(17, "no stages, then", x.go(), -3);
        x.stage(0, 0, 1);
        Checks.due(17, "one above 9999, then", x.go(), -6);
        Checks.due(17, "in mind it goes on", x.counts(0), 1);
    }

    /** AT after each of many turns is what it goes in all, by its round. */
    private static void goesOnRound() {
        ClickEachTurn x = Checks.bike("f60;k61;r11;ql50,0,1,1;qt50,0,1,1;", "qb50,0,1,1,19/20;qb50,0,1,1,20/1;");
        int[] up = {60, 60, 19, 20};
        int[] down = {61, 11, 20, 1};
        x.stage(0, 0, 1);
        for (int turn = 1; turn <= 65; turn++) {
            x.go();
            for (int f = 0; f < 4; f++) Checks.due(17, "AT of " + f + " after " + turn, x.fault(f, 5), 100 * turn * up[f] % (100 * down[f]));
        }
    }

    /** "AT becomes AT times DOWN by the DOWN with which it was told so far (1 at first), cut." */
    private static void goesOnCut() {
        ClickEachTurn x = Checks.bike("r15;r22;qt00,0,1,1;ql00,0,1,1;qb00,0,1,1,7/3;qo10,0,1,1;");
        x.stage(0, 0, 1);
        x.go();
        Checks.due(17, "AT in gear 0", x.fault(0, 5), 1400);
        Checks.due(17, "AT of a link", x.fault(1, 5), 4400);
        Checks.due(17, "AT of a ball", x.fault(2, 5), 100);
        x.drop();
        x.stage(5, 1, 1);
        x.go();
        Checks.due(17, "AT told anew for gear 1, cut", x.fault(0, 5), 2053);
        x.go();
        Checks.due(17, "AT told so already", x.fault(0, 5), 2053);
        Checks.read(x, "k60;");
        Checks.due(17, "AT of a link stays till a stage begins", x.fault(1, 5), 4400);
        Checks.due(14, "in mind it is told anew", x.stageCounts(1, 0, 0, 1), 1);
        Checks.due(17, "AT of a link stays behind what is in mind", x.fault(1, 5), 4400);
        x.go();
        Checks.due(17, "AT of a link told anew, cut", x.fault(1, 5), 2444);
        x.drop();
        x.stage(2, 0, 1);
        x.go();
        // 2053 of 2200 is 1399 of 1500, cut; 4400 on is 5799, gone round 1299.
        Checks.due(17, "AT in gear 0 again", x.fault(0, 5), 1299);
        Checks.due(17, "AT of a link", x.fault(1, 5), 844);
        Checks.due(17, "AT of a ball", x.fault(2, 5), 200);
        Checks.due(17, "AT of a loose one", x.fault(3, 5), 0);
    }

    /** Only p, d, c and s go back, and none coasts; a whole turn brings them back to where they stood. */
    private static void goesBack() {
        ClickEachTurn x = Checks.bike("r15;qb00,0,1,1,7/3;ql00,0,1,1;qt00,0,1,1;qp00,0,1,1;", "qo00,0,1,1;qd00,0,1,1;qc00,0,1,1;qs00,0,1,1;");
        x.stage(0, 0, 1);
        x.go();
        int[] at = {100, 4400, 1400, 0, 0, 0, 0, 0};
        x.drop();
        x.stage(4, 0, 7);
        Checks.due(17, "go() back", x.go(), 8);
        for (int f = 0; f < 8; f++) Checks.due(17, "AT of " + f + " behind going back", x.fault(f, 5), at[f]);
        x.drop();
        x.stage(5, 0, 7);
        Checks.due(17, "go() coasting", x.go(), 15);
        for (int f = 0; f < 8; f++) Checks.due(17, "AT of " + f + " behind coasting", x.fault(f, 5), at[f]);
        for (int f = 0; f < 8; f++) Checks.due(13, "clicks of " + f, x.counts(f), f == 4 ? 14 : 0);
    }

    /** With all the faults and stages there can be, all of them go on. */
    private static void fullGoes() {
        String teeth = "qt00,0,1,1;qt00,0,1,1;qt00,0,1,1;qt00,0,1,1;";
        ClickEachTurn x = Checks.bike("f20;r10;r11;r12;r13;r14;", teeth, teeth);
        for (int i = 0; i < 8; i++) x.stage(i % 4, 4, 1 + i);
        Checks.due(17, "go()", x.go(), 36);
        for (int f = 0; f < 8; f++) Checks.due(17, "AT of " + f, x.fault(f, 5), 72000 % 1400);
    }
}
