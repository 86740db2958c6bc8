/** Promises 18 to 25: what fits a count, what tells faults apart, beats and odds. */
public final class TellTest {
    private static final String FOUR = "qp33,0,1,1;qp33,0,1,1;qp33,0,1,1;qp33,0,1,1;";

    public static void main(String[] args) {
        fits();
        fitsOfAll();
        odds();
        oddsInLeastTerms();
        twos();
        twosOfAll();
        apart();
        apartByLoads();
        apartInOrder();
        apartInTwentyTurns();
        apartFromNowOn();
        tells();
        tellsTheFirst();
        tellsTurns();
        tellsOfAll();
        lengths();
        lengthsByActs();
        lengthsFromNowOn();
        beats();
        beatsAtTheEnds();
        beatsOfTeeth();
        beatsFromNowOn();
        away();
        Checks.finish("TellTest");
    }

    /** In its ride of ten turns the counts are 10, 20, 40, 0, 10. */
    private static ClickEachTurn five() {
        ClickEachTurn x = Checks.bike("f20;r20;r10;qp33,0,6,1;qo00,0,9,1;qb00,0,4,1,4/1;", "qp00,9,3,1;qt50,0,2,1;");
        x.stage(0, 0, 10);
        return x;
    }

    /** "Within OFF": by OFF it fits on both sides, by one more not. */
    private static void fits() {
        ClickEachTurn x = five();
        int[] counts = {10, 20, 40, 0, 10};
        for (int told : new int[] {0, 9, 10, 11, 19, 20, 30, 40, 41, 9999}) {
            for (int off : new int[] {0, 1, 10, 11, 20, 30, 9958, 9959, 9989, 9999}) {
                int bits = 0;
                for (int f = 0; f < 5; f++) if (told - off <= counts[f] && counts[f] <= told + off) bits |= 1 << f;
                Checks.due(18, "fit(" + told + ", " + off + ")", x.fit(told, off), bits);
            }
        }
        Checks.due(18, "fit(10, 0)", x.fit(10, 0), 17);
        Checks.due(18, "fit(21, 1)", x.fit(21, 1), 2);
        Checks.due(18, "fit(22, 1)", x.fit(22, 1), 0);
        Checks.due(18, "fit(9999, 9959)", x.fit(9999, 9959), 4);
        Checks.due(18, "fit(9999, 9958)", x.fit(9999, 9958), 0);
        x.drop();
        Checks.due(18, "without a ride all are 0", x.fit(0, 0), 31);
        Checks.due(18, "without a ride none is 1", x.fit(1, 0), 0);
    }

    private static void fitsOfAll() {
        Checks.due(18, "no faults", new ClickEachTurn().fit(0, 9999), 0);
        ClickEachTurn x = Checks.bike("r10;", FOUR, FOUR);
        x.stage(0, 0, 60);
        Checks.due(18, "eight faults", x.fit(60, 0), 255);
        Checks.due(18, "none of eight", x.fit(59, 0), 0);
        ClickEachTurn y = Checks.bike("r10;qb00,0,1,1,20/1;");
        for (int i = 0; i < 8; i++) y.stage(0, 0, 60);
        Checks.due(18, "the greatest count", y.fit(9600, 0), 1);
        Checks.due(18, "from the greatest told", y.fit(9999, 399), 1);
        Checks.due(18, "one less", y.fit(9999, 398), 0);
    }

    private static void odds(ClickEachTurn x, String what, int fault, int count, int off, int up, int down) {
        Checks.due(19, what + ", up", x.odds(fault, count, off, 0), up);
        Checks.due(19, what + ", down", x.odds(fault, count, off, 1), down);
    }

    private static void odds() {
        ClickEachTurn x = five();
        odds(x, "6 of 8", 0, 10, 0, 3, 4);
        odds(x, "2 of 8", 4, 10, 0, 1, 4);
        odds(x, "alone", 1, 20, 0, 1, 1);
        odds(x, "9 of 24", 1, 9999, 9999, 3, 8);
        odds(x, "3 of 11", 3, 0, 10, 3, 11);
        odds(x, "4 of 13, by just the OFF", 2, 30, 10, 4, 13);
        Checks.due(19, "it does not fit by one", x.odds(1, 10, 9, 0), -3);
        Checks.due(19, "it does not fit from above", x.odds(1, 30, 9, 1), -3);
        odds(x, "9 of 20, by just the OFF from above", 1, 10, 10, 9, 20);
    }

    /** A great weight by great weights, with and without a common part. */
    private static void oddsInLeastTerms() {
        for (int a : new int[] {1, 2, 6, 49, 50, 64, 97, 98, 99}) {
            for (int b : new int[] {1, 2, 3, 35, 64, 97, 99}) {
                ClickEachTurn x = Checks.bike("qp00,0," + a + ",1;qd00,0," + b + ",1;");
                int g = java.math.BigInteger.valueOf(a).gcd(java.math.BigInteger.valueOf(b)).intValue();
                odds(x, a + " of " + (a + b), 0, 0, 0, a / g, (a + b) / g);
                Checks.due(25, b + " of " + (a + b) + ", up", x.away(0), b / g);
                Checks.due(25, b + " of " + (a + b) + ", down", x.away(1), (a + b) / g);
            }
        }
        String heavy = "qp00,0,99,1;qp00,0,99,1;qp00,0,99,1;qp00,0,99,1;";
        ClickEachTurn all = Checks.bike(heavy, heavy);
        odds(all, "99 of 792", 7, 0, 0, 1, 8);
        Checks.due(33, "all WEIGHTS", all.count(7), 792);
    }

    private static void twos() {
        ClickEachTurn x = five();
        int[][] sums = {{50, 0, 2, 24}, {10, 0, 3, 34}, {25, 5, 1, 4, 13, 14}, {60, 0, 12}, {60, 9, 12}, {25, 4}, {61, 0}, {61, 1, 12}, {40, 0, 23}};
        for (int[] s : sums) {
            Checks.due(20, "sums of " + s[0] + " by " + s[1], x.twos(s[0], s[1], -1), s.length - 2);
            for (int i = 2; i < s.length; i++) Checks.due(20, "the " + (i - 2) + " of " + s[0] + " by " + s[1], x.twos(s[0], s[1], i - 2), s[i]);
            Checks.due(20, "behind the last of " + s[0] + " by " + s[1], x.twos(s[0], s[1], s.length - 2), -9);
        }
        Checks.due(20, "far behind", x.twos(50, 0, Integer.MAX_VALUE), -9);
        Checks.due(20, "all", x.twos(0, 9999, -1), 10);
        Checks.due(20, "all but the one of no more than 10", x.twos(9999, 9988, -1), 8);
        Checks.due(20, "i -2", x.twos(50, 0, -2), -4);
    }

    private static void twosOfAll() {
        Checks.due(20, "no faults", new ClickEachTurn().twos(0, 0, -1), 0);
        Checks.due(20, "no faults, the first", new ClickEachTurn().twos(0, 0, 0), -9);
        Checks.due(20, "one fault", Checks.faults(1).twos(0, 0, -1), 0);
        Checks.due(20, "two faults", Checks.faults(2).twos(0, 0, 0), 1);
        ClickEachTurn x = Checks.faults(8);
        Checks.due(20, "eight faults", x.twos(0, 0, -1), 28);
        int i = 0;
        for (int a = 0; a < 8; a++) {
            for (int b = a + 1; b < 8; b++) Checks.due(20, "pair " + i, x.twos(0, 0, i++), 10 * a + b);
        }
        Checks.due(20, "behind 28", x.twos(0, 0, 28), -9);
        ClickEachTurn y = Checks.bike("r10;qb00,0,1,1,20/1;qb00,0,1,1,20/1;");
        for (int s = 0; s < 8; s++) y.stage(0, 0, 60);
        Checks.due(20, "a sum of 19200 is 9201 from the greatest told", y.twos(9999, 9201, -1), 1);
        Checks.due(20, "by one less it is not", y.twos(9999, 9200, -1), 0);
    }

    private static void apart() {
        ClickEachTurn x = Checks.bike("f20;r20;r10;qp20,7,1,1;qp20,9,1,1;qp20,0,1,1;qt20,0,1,1;", "qd20,0,1,1;");
        Checks.due(21, "first standing", x.apart(0, 1), 10);
        Checks.due(21, "either way round", x.apart(1, 0), 10);
        Checks.due(21, "by the second gear", x.apart(2, 3), 1);
        Checks.due(21, "never", x.apart(2, 4), -9);
        Checks.due(21, "at once", x.apart(0, 2), 0);
        Checks.due(21, "one twice", x.apart(1, 1), -1);
        x.oil();
        Checks.due(21, "by the oil", x.apart(2, 4), 0);
        x.set(3, 0);
        Checks.due(21, "without it", x.apart(2, 4), -9);
        ClickEachTurn z = Checks.bike("r10;r20;qo00,0,1,1;qb00,0,1,1,2/1;");
        Checks.due(21, "by going back and coasting alone, which are not looked at", z.apart(0, 1), -9);
        Checks.due(21, "no cogs", Checks.bike("qp00,0,1,1;qp00,9,1,1;").apart(0, 1), -9);
    }

    /** Each ACT of 0 .. 3 is the first that tells some two apart. */
    private static void apartByLoads() {
        ClickEachTurn y = Checks.bike("r10;qp20,6,1,1;qp70,6,1,1;qs20,5,1,1;qo00,9,1,1;");
        Checks.due(21, "by the left foot alone", y.apart(0, 1), 30);
        Checks.due(21, "without hands", y.apart(0, 2), 20);
        Checks.due(21, "sitting, loose ones", y.apart(1, 3), 0);
        y.set(1, 1);
        Checks.due(21, "sitting, in the other shoe", y.apart(0, 2), 0);
    }

    /** By ACTS, then GEARS: the last gear of an act comes ahead of the first of the next. */
    private static void apartInOrder() {
        ClickEachTurn x = Checks.bike("f20;r20;r20;r20;r20;r10;qt20,6,1,1;qp20,6,1,1;", "qt20,7,1,1;qp20,7,1,1;qt70,2,1,1;qp70,2,1,1;qp70,3,1,1;");
        Checks.due(21, "sitting, in the fifth gear", x.apart(0, 1), 4);
        Checks.due(21, "standing, in the fifth gear", x.apart(2, 3), 14);
        Checks.due(21, "sitting again", x.apart(4, 5), 4);
        Checks.due(21, "by the left foot, in the first gear", x.apart(5, 6), 30);
        ClickEachTurn y = Checks.bike("f20;r20;r20;r20;r20;r10;qt20,9,1,1;qp20,9,1,1;");
        Checks.due(21, "too light", y.apart(0, 1), -9);
        y.set(0, 1);
        Checks.due(21, "on a hill", y.apart(0, 1), 14);
        y.set(0, 3);
        Checks.due(21, "on a steeper one", y.apart(0, 1), 4);
    }

    /** A crack that grows behind the nineteenth turn tells in twenty; behind the twentieth it does not. */
    private static void apartInTwentyTurns() {
        ClickEachTurn x = Checks.bike("r10;qc20,9,1,1;qp20,9,1,1;");
        Checks.due(21, "in twenty turns", x.apart(0, 1), -9);
        x.stage(5, 0, 1);
        x.go();
        Checks.due(21, "after one more", x.apart(0, 1), 10);
    }

    /** "From now on": where they stand tells them apart. */
    private static void apartFromNowOn() {
        ClickEachTurn y = Checks.bike("f20;k100;r10;ql00,0,1,1;ql50,0,1,1;");
        Checks.due(21, "four of both", y.apart(0, 1), -9);
        Checks.read(y, "f22;");
        Checks.due(21, "four of both by 22 teeth", y.apart(0, 1), -9);
        y.stage(0, 0, 1);
        y.go();
        // From 2200 on 46200 are gone: 5000 is come by in 5000 .. 45000 five times, 0 in 10000 .. 40000.
        Checks.due(21, "five of one", y.apart(0, 1), 0);
    }

    private static void tells() {
        ClickEachTurn x = Checks.bike("f20;r20;r10;qp20,0,1,1;qt20,0,1,1;qp20,7,1,1;qo20,7,1,1;");
        // SIT tells 1 from 0, in the second gear 2 from 1 from 0; STAND no more than that.
        Checks.due(22, "most unlike", x.tells(1, 1), 3);
        Checks.due(22, "the first of them", x.tells(1, 0), 1);
        Checks.due(22, "60 turns", x.tells(60, 1), 3);
        Checks.due(22, "0 turns", x.tells(0, 1), -4);
        Checks.due(22, "61 turns", x.tells(61, 1), -6);
        ClickEachTurn y = Checks.bike("r20;r10;qp20,7,1,1;qp20,8,1,1;qp20,9,1,1;");
        Checks.due(22, "standing", y.tells(5, 0), 10);
        Checks.due(22, "two unlike", y.tells(5, 1), 2);
        y.set(0, 1);
        Checks.due(22, "sitting on a hill", y.tells(5, 0), 0);
        ClickEachTurn z = Checks.bike("r10;r20;qo00,0,1,1;qb00,0,1,1,2/1;");
        Checks.due(22, "by going back alone, which is not looked at", z.tells(60, 1), 1);
        Checks.due(22, "so the first stage", z.tells(1, 0), 0);
    }

    /** "Of several the first": of stages that tell as many, by ACTS, then GEARS. */
    private static void tellsTheFirst() {
        ClickEachTurn y = Checks.bike("r20;r10;qp20,7,1,1;qp20,8,1,1;qp20,9,1,1;");
        y.set(0, 9);
        Checks.due(22, "none tells", y.tells(5, 0), 0);
        Checks.due(22, "one alone", y.tells(5, 1), 1);
        ClickEachTurn left = Checks.bike("r20;r10;qp20,6,1,1;qp70,6,1,1;");
        Checks.due(22, "the left foot alone", left.tells(60, 0), 30);
        ClickEachTurn hands = Checks.bike("r20;r10;qp20,6,1,1;qp20,5,1,1;");
        Checks.due(22, "without hands", hands.tells(60, 0), 20);
        ClickEachTurn gears = Checks.bike("f20;r20;r20;r20;r20;r10;qp20,0,1,1;qt20,0,1,1;");
        Checks.due(22, "the fifth gear", gears.tells(60, 0), 4);
        ClickEachTurn last = Checks.bike("f20;r20;r20;r20;r20;r10;", "qt40,6,1,1;qp20,6,1,1;qp70,6,1,1;qt40,2,1,1;");
        // In the fifth gear the teeth come by in steps 19 and 69: SIT 2, 1, 1, 2; NO HANDS 0, 0, 0, 2; LEFT 1, 1, 0, 2.
        Checks.due(22, "three unlike", last.tells(1, 1), 3);
        Checks.due(22, "in the last of all stages", last.tells(1, 0), 34);
    }

    /** What n turns tell, and one less does not. */
    private static void tellsTurns() {
        ClickEachTurn y = Checks.bike("r10;qc20,9,1,1;qp20,9,1,1;");
        Checks.due(22, "in twenty turns no crack grows", y.tells(20, 1), 1);
        Checks.due(22, "in 21 it does", y.tells(21, 1), 2);
        Checks.due(22, "standing, it tells", y.tells(21, 0), 10);
        ClickEachTurn z = Checks.bike("r10;qc50,4,1,1;qp50,4,1,1;");
        Checks.due(22, "in 40 turns", z.tells(40, 1), 1);
        Checks.due(22, "in 41 turns", z.tells(41, 1), 2);
        Checks.due(22, "in 60 turns, sitting", z.tells(60, 0), 0);
    }

    /** With all cogs and all faults that there can be. */
    private static void tellsOfAll() {
        ClickEachTurn x = Checks.bike("f20;r20;r20;r20;r20;r10;qp20,0,1,1;qp20,9,1,1;qt20,0,1,1;", "qb00,0,1,1,3/1;qb00,0,1,1,4/1;qb00,0,1,1,5/1;",
            "qb00,0,1,1,6/1;qb00,0,1,1,7/1;");
        Checks.due(22, "eight unlike", x.tells(1, 1), 8);
        Checks.due(22, "in the fifth gear", x.tells(1, 0), 4);
    }

    private static void lengths() {
        ClickEachTurn x = Checks.bike("f20;r20;r10;qp20,0,1,1;qt20,0,1,1;qb00,0,1,1,20/1;");
        for (int d = 1; d <= 61; d++) {
            Checks.due(23, "by " + d, x.length(0, 1, 0, 1, d), d <= 60 ? d : -9);
            Checks.due(23, "either way round by " + d, x.length(1, 0, 0, 1, d), d <= 60 ? d : -9);
        }
        Checks.due(23, "not in this gear", x.length(0, 1, 0, 0, 1), -9);
        int[] by = {1, 18, 19, 20, 38, 39, 988, 989, 999};
        int[] turns = {1, 1, 1, 2, 2, 3, 52, 53, 53};
        for (int i = 0; i < by.length; i++) Checks.due(23, "nineteen a turn, by " + by[i], x.length(0, 2, 0, 0, by[i]), turns[i]);
        Checks.due(23, "d 0", x.length(0, 2, 0, 0, 0), -4);
        Checks.due(23, "d 1000", x.length(0, 2, 0, 0, 1000), -6);
        Checks.due(23, "one twice", x.length(2, 2, 0, 0, 1), -1);
    }

    private static void lengthsByActs() {
        ClickEachTurn x = Checks.bike("r10;qp20,6,1,1;qo00,0,1,1;qp70,6,1,1;qp20,8,1,1;qc20,7,1,1;");
        int[] loose = {60, 60, 30, 60, 30, 30};
        for (int act = 0; act < 6; act++) {
            Checks.due(23, "a loose one by 60 in act " + act, x.length(0, 1, act, 0, 60), loose[act]);
            Checks.due(23, "a loose one by 120 in act " + act, x.length(0, 1, act, 0, 120), loose[act] == 30 ? 60 : -9);
            Checks.due(23, "left and right in act " + act, x.length(0, 2, act, 0, 1), act == 3 ? 1 : -9);
            Checks.due(23, "by the LOAD in act " + act, x.length(0, 3, act, 0, 7), act == 0 || act == 3 ? 7 : -9);
        }
        Checks.due(23, "a crack, sitting, behind twenty", x.length(4, 3, 0, 0, 1), 21);
        Checks.due(23, "by 40", x.length(4, 3, 0, 0, 40), 60);
        Checks.due(23, "by 41", x.length(4, 3, 0, 0, 41), -9);
    }

    private static void lengthsFromNowOn() {
        ClickEachTurn x = Checks.bike("r10;qc20,7,1,1;qp20,7,1,1;qd20,0,1,1;qp20,0,1,1;qb00,0,1,1,1/7;");
        Checks.due(23, "a round of seven turns", x.length(3, 4, 5, 0, 1), -9);
        Checks.due(23, "its first click makes up for none", x.length(1, 4, 0, 0, 1), 7);
        x.stage(5, 0, 15);
        x.stage(0, 0, 4);
        x.go();
        Checks.due(23, "the crack grows behind one", x.length(0, 1, 0, 0, 1), 2);
        Checks.due(23, "the ball's click comes in the third", x.length(1, 4, 0, 0, 1), 3);
        x.oil();
        Checks.due(23, "oiled at once", x.length(2, 3, 0, 0, 1), 1);
        Checks.due(23, "oiled for thirty", x.length(2, 3, 0, 0, 30), 30);
        Checks.due(23, "oiled for no more", x.length(2, 3, 0, 0, 31), -9);
        x.set(3, 31);
        Checks.due(23, "oiled for 31", x.length(2, 3, 0, 0, 31), 31);
    }

    private static void beats() {
        ClickEachTurn x = Checks.bike("r10;qp25,9,1,1;qs25,9,1,1;qb50,9,1,1,2/1;", "qo25,9,1,1;qp00,0,1,1;qd25,9,1,1;");
        x.set(1, 1);
        x.oil();
        Checks.due(24, "at one place, load or not", x.beat(0, 1, 0), 24);
        Checks.due(24, "an oiled one", x.beat(5, 0, 0), 24);
        Checks.due(24, "with a ball", x.beat(0, 2, 0), 24);
        Checks.due(24, "with a loose one, where it comes by", x.beat(3, 2, 0), 24);
        Checks.due(24, "never", x.beat(0, 4, 0), -9);
        Checks.due(24, "one twice", x.beat(0, 0, 0), -1);
        ClickEachTurn places = Checks.bike("r10;qp01,0,1,1;qd01,0,1,1;qp00,0,1,1;qd00,0,1,1;qp02,0,1,1;");
        Checks.due(24, "in step 0", places.beat(0, 1, 0), 0);
        Checks.due(24, "in step 99", places.beat(2, 3, 0), 99);
        Checks.due(24, "a step apart", places.beat(0, 4, 0), -9);
    }

    /** The steps that are looked at are 0 .. 1999. */
    private static void beatsAtTheEnds() {
        ClickEachTurn x = Checks.bike("r10;qp00,0,1,1;qb00,9,1,1,1/20;qb00,9,1,1,1/19;");
        Checks.due(24, "in the last step", x.beat(0, 1, 0), 1999);
        Checks.due(24, "in step 1899", x.beat(0, 2, 0), 1899);
        Checks.due(24, "not within 2000 steps", x.beat(1, 2, 0), -9);
        x.stage(0, 0, 1);
        x.go();
        Checks.due(24, "a turn later", x.beat(1, 0, 0), 1899);
        // Both come by in step 2000, and not together ahead of it.
        ClickEachTurn z = Checks.bike("f60;r37;qt44,0,1,1;qp01,0,1,1;");
        Checks.due(24, "in step 2000", z.beat(0, 1, 0), -9);
        z.stage(0, 0, 1);
        z.go();
        Checks.due(24, "in step 1900 then", z.beat(0, 1, 0), 1900);
    }

    private static void beatsOfTeeth() {
        ClickEachTurn y = Checks.bike("f30;r20;r30;qt50,0,1,1;qp50,0,1,1;");
        Checks.due(24, "a tooth in the second gear", y.beat(0, 1, 1), 49);
        // In the first gear it comes by in steps 33, 99, 166, 233, 299 .. and never in 49, 149 ..
        Checks.due(24, "a tooth in the first gear", y.beat(0, 1, 0), -9);
        ClickEachTurn x = Checks.bike("f60;k60;r10;ql50,0,1,1;qt50,0,1,1;qb00,0,1,1,20/1;");
        // A tooth comes by in steps 8, 24, 41, 58, 74, 91; a ball of 20 in 4, 9, 14 .. 74.
        Checks.due(24, "a tooth and a ball", x.beat(1, 2, 0), 24);
        Checks.due(24, "a link and a ball", x.beat(0, 2, 0), 49);
        Checks.due(24, "a link and a tooth", x.beat(0, 1, 0), -9);
    }

    /** As a stage in that gear would begin now: AT is told anew for it, and left as it was. */
    private static void beatsFromNowOn() {
        ClickEachTurn x = Checks.bike("f20;r30;r40;qt75,0,1,1;qp51,0,1,1;qp50,0,1,1;");
        x.stage(0, 0, 1);
        x.go();
        Checks.due(17, "AT in the first gear", x.fault(0, 5), 2000);
        // In the second gear it stands at 2666 of 4000, and 334 parts ahead of its own: come by in step 16.
        Checks.due(24, "not in step 49, as it would be from 2000 of 4000", x.beat(0, 2, 1), -9);
        Checks.due(24, "nor in step 50", x.beat(0, 1, 1), -9);
        Checks.due(17, "AT is left as it was", x.fault(0, 5), 2000);
        Checks.read(x, "qp17,0,1,1;qp18,0,1,1;");
        Checks.due(24, "in step 16", x.beat(0, 3, 1), 16);
        Checks.due(24, "not in step 17 of any turn", x.beat(0, 4, 1), -9);
    }

    private static void away() {
        ClickEachTurn x = Checks.bike("qd00,0,6,1;qp00,0,10,1;qd00,0,2,1;");
        Checks.due(25, "8 of 18", x.away(0), 4);
        Checks.due(25, "8 of 18", x.away(1), 9);
        ClickEachTurn none = Checks.bike("qp00,0,6,1;qc00,0,1,1;");
        Checks.due(25, "none", none.away(0), 0);
        Checks.due(25, "none", none.away(1), 1);
        ClickEachTurn all = Checks.bike("qd00,0,6,1;");
        Checks.due(25, "all", all.away(0), 1);
        Checks.due(25, "all", all.away(1), 1);
        ClickEachTurn eight = Checks.bike("qd00,0,99,1;qp00,0,99,1;qp00,0,99,1;qp00,0,99,1;", "qp00,0,99,1;qp00,0,99,1;qp00,0,99,1;qd00,0,98,1;");
        Checks.due(25, "197 of 791, up", eight.away(0), 197);
        Checks.due(25, "197 of 791, down", eight.away(1), 791);
        Checks.due(25, "part 2", all.away(2), -2);
        Checks.due(25, "no faults", new ClickEachTurn().away(1), -3);
    }
}
