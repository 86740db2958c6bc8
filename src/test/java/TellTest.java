/** Promises 18 to 25: what fits a count, what tells faults apart, and beats. */
public final class TellTest {
    public static void main(String[] args) {
        promise18();
        promise19();
        promise20();
        promise21();
        promise22();
        promise23();
        promise24();
        promise25();
        Checks.finish("TellTest");
    }

    /** In its ride of ten turns the counts are 10, 20, 40, 0, 10. */
    private static ClickEachTurn five() {
        ClickEachTurn x = Checks.bike("f20;r20;r10;qp33,0,6,1;qo00,0,9,1;qb00,0,4,1,4/1;", "qp00,9,3,1;qt50,0,2,1;");
        x.stage(0, 0, 10);
        return x;
    }

    private static void promise18() {
        ClickEachTurn x = five();
        Checks.due(18, "fit(10, 0)", x.fit(10, 0), 17);
        Checks.due(18, "fit(20, 0)", x.fit(20, 0), 2);
        Checks.due(18, "fit(19, 1)", x.fit(19, 1), 2);
        Checks.due(18, "fit(21, 1)", x.fit(21, 1), 2);
        Checks.due(18, "fit(22, 1)", x.fit(22, 1), 0);
        Checks.due(18, "fit(30, 10)", x.fit(30, 10), 6);
        Checks.due(18, "fit(0, 10)", x.fit(0, 10), 25);
        Checks.due(18, "fit(9999, 9999)", x.fit(9999, 9999), 31);
        Checks.due(18, "fit(9999, 9958)", x.fit(9999, 9958), 0);
        Checks.refused(18, "count below", x, -4, () -> x.fit(-1, 0));
        Checks.refused(18, "off below", x, -4, () -> x.fit(10000, -1));
        Checks.refused(18, "count above", x, -6, () -> x.fit(10000, 0));
        Checks.refused(18, "off above", x, -6, () -> x.fit(0, 10000));
        Checks.due(18, "no faults", new ClickEachTurn().fit(0, 9999), 0);
    }

    private static void promise19() {
        ClickEachTurn x = five();
        Checks.due(19, "6 of 8", x.odds(0, 10, 0, 0), 3);
        Checks.due(19, "6 of 8", x.odds(0, 10, 0, 1), 4);
        Checks.due(19, "2 of 8", x.odds(4, 10, 0, 0), 1);
        Checks.due(19, "2 of 8", x.odds(4, 10, 0, 1), 4);
        Checks.due(19, "alone", x.odds(1, 20, 0, 0), 1);
        Checks.due(19, "alone", x.odds(1, 20, 0, 1), 1);
        Checks.due(19, "9 of 24", x.odds(1, 9999, 9999, 0), 3);
        Checks.due(19, "9 of 24", x.odds(1, 9999, 9999, 1), 8);
        Checks.due(19, "3 of 11", x.odds(3, 0, 10, 0), 3);
        Checks.due(19, "3 of 11", x.odds(3, 0, 10, 1), 11);
        Checks.refused(19, "no such fault", x, -1, () -> x.odds(5, -1, 0, 2));
        Checks.refused(19, "no such part", x, -2, () -> x.odds(0, -1, 0, 2));
        Checks.refused(19, "no such part", x, -2, () -> x.odds(0, 10, 0, -1));
        Checks.refused(19, "count below", x, -4, () -> x.odds(0, -1, 10000, 0));
        Checks.refused(19, "off below", x, -4, () -> x.odds(0, 10000, -1, 0));
        Checks.refused(19, "count above", x, -6, () -> x.odds(1, 10000, 0, 0));
        Checks.refused(19, "off above", x, -6, () -> x.odds(1, 10, 10000, 0));
        Checks.refused(19, "does not fit", x, -3, () -> x.odds(1, 10, 9, 0));
    }

    private static void promise20() {
        ClickEachTurn x = five();
        Checks.due(20, "sums of 50", x.twos(50, 0, -1), 2);
        Checks.due(20, "the first", x.twos(50, 0, 0), 2);
        Checks.due(20, "the second", x.twos(50, 0, 1), 24);
        Checks.due(20, "no third", x.twos(50, 0, 2), -9);
        Checks.due(20, "far behind", x.twos(50, 0, Integer.MAX_VALUE), -9);
        Checks.due(20, "sums of 10", x.twos(10, 0, -1), 2);
        Checks.due(20, "0 and 3", x.twos(10, 0, 0), 3);
        Checks.due(20, "3 and 4", x.twos(10, 0, 1), 34);
        Checks.due(20, "sums of 25 by 5", x.twos(25, 5, -1), 4);
        Checks.due(20, "0 and 1", x.twos(25, 5, 0), 1);
        Checks.due(20, "0 and 4", x.twos(25, 5, 1), 4);
        Checks.due(20, "1 and 3", x.twos(25, 5, 2), 13);
        Checks.due(20, "1 and 4", x.twos(25, 5, 3), 14);
        Checks.due(20, "sums of 25 by 4", x.twos(25, 4, -1), 0);
        Checks.due(20, "all", x.twos(0, 9999, -1), 10);
        Checks.due(20, "all but the one of no more than 10", x.twos(9999, 9988, -1), 8);
        Checks.refused(20, "i below", x, -4, () -> x.twos(10000, 0, -2));
        Checks.refused(20, "count below", x, -4, () -> x.twos(-1, 0, 0));
        Checks.refused(20, "off below", x, -4, () -> x.twos(0, -1, 0));
        Checks.refused(20, "count above", x, -6, () -> x.twos(10000, 0, -1));
        Checks.refused(20, "off above", x, -6, () -> x.twos(0, 10000, -1));
        Checks.due(20, "no faults", new ClickEachTurn().twos(0, 0, -1), 0);
    }

    private static void promise21() {
        ClickEachTurn x = Checks.bike("f20;r20;r10;qp20,7,1,1;qp20,9,1,1;qp20,0,1,1;qt20,0,1,1;", "qd20,0,1,1;");
        Checks.due(21, "first standing", x.apart(0, 1), 10);
        Checks.due(21, "either way round", x.apart(1, 0), 10);
        Checks.due(21, "by the second gear", x.apart(2, 3), 1);
        Checks.due(21, "never", x.apart(2, 4), -9);
        Checks.due(21, "at once", x.apart(0, 2), 0);
        x.oil();
        Checks.due(21, "by the oil", x.apart(2, 4), 0);
        x.set(3, 0);
        Checks.due(21, "without it", x.apart(2, 4), -9);
        ClickEachTurn y = Checks.bike("r10;qp20,6,1,1;qp70,6,1,1;qs20,5,1,1;qo00,9,1,1;");
        Checks.due(21, "by the left foot alone", y.apart(0, 1), 30);
        Checks.due(21, "without hands", y.apart(0, 2), 20);
        Checks.due(21, "loose ones", y.apart(1, 3), 0);
        Checks.refused(21, "one twice", y, -1, () -> y.apart(1, 1));
        Checks.refused(21, "no such fault", y, -1, () -> y.apart(4, 0));
        Checks.refused(21, "no such fault", y, -1, () -> y.apart(0, -1));
        ClickEachTurn z = Checks.bike("r10;r20;qo00,0,1,1;qb00,0,1,1,2/1;");
        Checks.due(21, "by going back alone, which is not looked at", z.apart(0, 1), -9);
        Checks.due(21, "no cogs", Checks.bike("qp00,0,1,1;qp00,9,1,1;").apart(0, 1), -9);
        cracksApart();
    }

    /** A crack that grows only behind the twentieth turn tells nothing in twenty. */
    private static void cracksApart() {
        ClickEachTurn x = Checks.bike("r10;qc20,9,1,1;qp20,9,1,1;");
        Checks.due(21, "in twenty turns", x.apart(0, 1), -9);
        x.stage(5, 0, 1);
        x.go();
        Checks.due(21, "after one more", x.apart(0, 1), 10);
    }

    private static void promise22() {
        ClickEachTurn x = Checks.bike("f20;r20;r10;qp20,0,1,1;qt20,0,1,1;qp20,7,1,1;qo20,7,1,1;");
        // SIT tells 1 from 0, in the second gear 2 from 1 from 0; STAND no more than that.
        Checks.due(22, "most unlike", x.tells(1, 1), 3);
        Checks.due(22, "the first of them", x.tells(1, 0), 1);
        Checks.due(22, "60 turns", x.tells(60, 1), 3);
        ClickEachTurn y = Checks.bike("r20;r10;qp20,7,1,1;qp20,8,1,1;qp20,9,1,1;");
        Checks.due(22, "standing", y.tells(5, 0), 10);
        Checks.due(22, "two unlike", y.tells(5, 1), 2);
        y.set(0, 1);
        Checks.due(22, "sitting on a hill", y.tells(5, 0), 0);
        y.set(0, 9);
        Checks.due(22, "none tells", y.tells(5, 0), 0);
        Checks.due(22, "one alone", y.tells(5, 1), 1);
        ClickEachTurn z = Checks.bike("r10;r20;qo00,0,1,1;qb00,0,1,1,2/1;");
        Checks.due(22, "by going back alone, which is not looked at", z.tells(60, 1), 1);
        Checks.due(22, "so the first stage", z.tells(1, 0), 0);
        Checks.refused(22, "other", y, -2, () -> y.tells(0, 2));
        Checks.refused(22, "other", y, -2, () -> y.tells(1, -1));
        Checks.refused(22, "n below", y, -4, () -> y.tells(0, 0));
        Checks.refused(22, "n above", y, -6, () -> y.tells(61, 1));
        ClickEachTurn cogs = Checks.bike("r10;");
        Checks.refused(22, "no faults", cogs, -3, () -> cogs.tells(1, 0));
        Checks.refused(22, "no faults, n above", cogs, -6, () -> cogs.tells(61, 0));
        ClickEachTurn faults = Checks.bike("qp00,0,1,1;");
        Checks.refused(22, "no cogs", faults, -3, () -> faults.tells(60, 1));
    }

    private static void promise23() {
        ClickEachTurn x = Checks.bike("f20;r20;r10;qp20,0,1,1;qt20,0,1,1;qo00,0,1,1;qb00,0,1,1,20/1;");
        Checks.due(23, "five turns", x.length(0, 1, 0, 1, 5), 5);
        Checks.due(23, "either way round", x.length(1, 0, 0, 1, 5), 5);
        Checks.due(23, "sixty turns", x.length(0, 1, 0, 1, 60), 60);
        Checks.due(23, "no more", x.length(0, 1, 0, 1, 61), -9);
        Checks.due(23, "not in this gear", x.length(0, 1, 0, 0, 1), -9);
        Checks.due(23, "by coasting", x.length(0, 2, 5, 0, 3), 2);
        Checks.due(23, "by going back", x.length(2, 0, 4, 0, 120), 60);
        Checks.due(23, "by 19 a turn", x.length(0, 3, 0, 0, 19), 1);
        Checks.due(23, "by 20", x.length(0, 3, 0, 0, 20), 2);
        Checks.due(23, "by 999", x.length(0, 3, 0, 0, 999), 53);
        Checks.refused(23, "one twice", x, -1, () -> x.length(1, 1, 0, 0, 0));
        Checks.refused(23, "no such fault", x, -1, () -> x.length(4, 1, 0, 0, 1));
        Checks.refused(23, "no such fault", x, -1, () -> x.length(0, -1, 0, 0, 1));
        Checks.refused(23, "no such act", x, -1, () -> x.length(0, 1, 6, 0, 1));
        Checks.refused(23, "no such gear", x, -1, () -> x.length(0, 1, 0, 2, 1000));
        Checks.refused(23, "d below", x, -4, () -> x.length(0, 1, 0, 0, 0));
        Checks.refused(23, "d above", x, -6, () -> x.length(0, 1, 0, 0, 1000));
    }

    private static void promise24() {
        ClickEachTurn x = Checks.bike("r10;qp25,9,1,1;qs25,9,1,1;qb50,9,1,1,2/1;", "qo25,9,1,1;qp00,0,1,1;qb00,9,1,1,1/20;qb00,9,1,1,1/19;");
        x.set(1, 1);
        Checks.due(24, "at one place, load or not", x.beat(0, 1, 0), 24);
        Checks.due(24, "with a ball", x.beat(0, 2, 0), 24);
        Checks.due(24, "with a loose one, where it comes by", x.beat(3, 2, 0), 24);
        Checks.due(24, "never", x.beat(0, 4, 0), -9);
        Checks.due(24, "in the last step", x.beat(4, 5, 0), 1999);
        Checks.due(24, "not within 2000 steps", x.beat(5, 6, 0), -9);
        x.stage(0, 0, 1);
        x.go();
        Checks.due(24, "a turn later", x.beat(5, 4, 0), 1899);
        Checks.refused(24, "one twice", x, -1, () -> x.beat(0, 0, 0));
        Checks.refused(24, "no such fault", x, -1, () -> x.beat(0, 7, 0));
        Checks.refused(24, "no such fault", x, -1, () -> x.beat(-1, 0, 0));
        Checks.refused(24, "no such gear", x, -1, () -> x.beat(0, 1, 1));
        Checks.refused(24, "no such gear", x, -1, () -> x.beat(0, 1, -1));
        ClickEachTurn y = Checks.bike("f30;r20;r30;qt50,0,1,1;qp50,0,1,1;");
        Checks.due(24, "a tooth in the second gear", y.beat(0, 1, 1), 49);
        // In the first gear it comes by in steps 33, 99, 166, 233, 299 .. and never in 49, 149 ..
        Checks.due(24, "a tooth in the first gear", y.beat(0, 1, 0), -9);
        // Both come by in step 2000, and not together ahead of it.
        ClickEachTurn z = Checks.bike("f60;r37;qt44,0,1,1;qp01,0,1,1;qd01,0,1,1;");
        Checks.due(24, "in step 2000", z.beat(0, 1, 0), -9);
        Checks.due(24, "in step 0", z.beat(1, 2, 0), 0);
        z.stage(0, 0, 1);
        z.go();
        Checks.due(24, "in step 1900 then", z.beat(0, 1, 0), 1900);
    }

    private static void promise25() {
        ClickEachTurn x = Checks.bike("qd00,0,6,1;qp00,0,10,1;qd00,0,2,1;");
        Checks.due(25, "8 of 18", x.away(0), 4);
        Checks.due(25, "8 of 18", x.away(1), 9);
        ClickEachTurn none = Checks.bike("qp00,0,6,1;");
        Checks.due(25, "none", none.away(0), 0);
        Checks.due(25, "none", none.away(1), 1);
        ClickEachTurn all = Checks.bike("qd00,0,6,1;");
        Checks.due(25, "all", all.away(0), 1);
        Checks.due(25, "all", all.away(1), 1);
        Checks.refused(25, "other", all, -2, () -> all.away(2));
        Checks.refused(25, "other", all, -2, () -> all.away(-1));
        ClickEachTurn empty = new ClickEachTurn();
        Checks.refused(25, "no faults", empty, -3, () -> empty.away(1));
        Checks.refused(25, "other, no faults", empty, -2, () -> empty.away(2));
    }
}
