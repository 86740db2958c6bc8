import java.util.ArrayList;
import java.util.LinkedHashMap;
import java.util.List;
import java.util.Map;

/** Promises 2 and 3, and what the document's terms say of a TEXT: the tape and what becomes of it. */
public final class TextTest {
    private static final String KINDS = "pbltodcs";
    private static final String FOUR_FAULTS = "qp01,0,1,1;qp02,0,1,1;qp03,0,1,1;qp04,0,1,1;";

    public static void main(String[] args) {
        feedOrder();
        feedPieces();
        feedSigns();
        tapeIsEmptyThen();
        firstByteThatCanNotGoOn();
        someTextsThatLack();
        formAheadOfSense();
        parts();
        cogs();
        faultNumbers();
        ballNumbers();
        kinds();
        roomForCogs();
        roomForFaults();
        firstStatementThatIsWrong();
        allOrNothing();
        fullTapes();
        laterTexts();
        Checks.finish("TextTest");
    }

    /** "n bytes come, the lowest first": no other bytes of the number come. */
    private static void feedOrder() {
        ClickEachTurn x = new ClickEachTurn();
        Checks.due(2, "feed(2)", x.feed(2, 0x7777777777770000L | '2' << 8 | 'f'), 2);
        Checks.due(2, "feed(2) more", x.feed(2, -1L << 16 | ';' << 8 | '0'), 4);
        Checks.due(2, "count(5)", x.count(5), 4);
        Checks.due(2, "bicycle()", x.bicycle(), 1);
        Checks.due(2, "FRONT", x.part(0), 20);
        Checks.due(2, "feed(8)", x.feed(8, 0x3b32_3272_3b31_3172L), 8);
        Checks.due(2, "bicycle()", x.bicycle(), 2);
        Checks.due(2, "the first cog", x.part(10), 11);
        Checks.due(2, "the second cog", x.part(11), 22);
    }

    /** In pieces of any size the same text comes. */
    private static void feedPieces() {
        String text = "f60;r12;qb12,3,45,67,8/9;k140;r34;";
        for (int size = 1; size <= 8; size++) {
            ClickEachTurn x = new ClickEachTurn();
            for (int at = 0; at < text.length(); at += size) Checks.feed(x, text.substring(at, Math.min(text.length(), at + size)));
            Checks.due(2, "bytes in pieces of " + size, x.count(5), text.length());
            Checks.due(3, "a text in pieces of " + size, x.bicycle(), 5);
            int[] got = {x.part(0), x.part(1), x.part(10), x.part(11), x.fault(0, 3), x.rounds(0, 0, 0), x.rounds(0, 0, 1)};
            int[] want = {60, 140, 12, 34, 45, 8, 9};
            for (int i = 0; i < want.length; i++) Checks.due(3, "in pieces of " + size + " its " + i, got[i], want[i]);
        }
    }

    /** A byte above 127 is none of the signs, at any place of the eight. */
    private static void feedSigns() {
        for (int place = 0; place < 8; place++) {
            ClickEachTurn x = new ClickEachTurn();
            x.feed(8, 0x3b32_3272_3b31_3172L ^ 128L << 8 * place);
            Checks.due(3, "a sign's bit at " + place, x.bicycle(), -1000 - place);
        }
    }

    /** "THE TAPE becomes a BICYCLE, and has none (by a FAULT, too)"; "nothing is counted". */
    private static void tapeIsEmptyThen() {
        String[] texts = {"r10;", "x", "f1;", "f20"};
        int[] due = {1, -1000, -2000, -1003};
        for (int i = 0; i < texts.length; i++) {
            ClickEachTurn x = new ClickEachTurn();
            text(x, texts[i], due[i]);
            Checks.due(3, "bytes behind " + texts[i], x.count(5), 0);
            for (int r = 11; r <= 16; r++) Checks.due(3, "count(" + r + ") behind " + texts[i], x.count(r), 0);
            text(x, "k60;", 1);
            text(x, "", -1000);
        }
    }

    private static void text(ClickEachTurn x, String text, int want) {
        Checks.due(3, "'" + text + "'", Checks.read(x, text), want);
    }

    /** For each beginning of a text the bytes with which it can go on. */
    private static Map<String, String> beginnings() {
        String digits = "0123456789";
        Map<String, String> on = new LinkedHashMap<>();
        on.put("", "fkrq");
        on.put("f20;", "fkrq");
        on.put("f20;k060;r10;qp00,0,1,1;", "fkrq");
        for (String letter : new String[] {"f", "k", "r"}) {
            on.put(letter, digits);
            on.put(letter + "1", digits + ";");
            on.put(letter + "12", digits + ";");
            on.put(letter + "123", ";");
        }
        on.put("q", KINDS);
        for (int k = 0; k < 8; k++) {
            String q = "q" + KINDS.charAt(k);
            on.put(q, digits);
            on.put(q + "1", digits);
            on.put(q + "12", ",");
            on.put(q + "12,", digits);
            on.put(q + "12,3", ",");
            on.put(q + "12,3,", digits);
            on.put(q + "12,3,4", digits + ",");
            on.put(q + "12,3,45", ",");
            on.put(q + "12,3,45,", digits);
            String end = KINDS.charAt(k) == 'b' ? "," : ";";
            on.put(q + "12,3,4,6", digits + end);
            on.put(q + "12,3,45,67", end);
        }
        on.put("qb12,3,4,6,", digits);
        on.put("qb12,3,4,6,8", digits + "/");
        on.put("qb12,3,4,67,18", "/");
        on.put("qb12,3,4,6,8/", digits);
        on.put("qb12,3,4,6,8/9", digits + ";");
        on.put("qb12,3,45,67,18/19", ";");
        return on;
    }

    /** "The place of the first byte with which no BICYCLE can go on", by every byte behind every beginning. */
    private static void firstByteThatCanNotGoOn() {
        for (Map.Entry<String, String> e : beginnings().entrySet()) {
            String begun = e.getKey();
            for (int b = 0; b < 256; b++) {
                if (b == ';' && e.getValue().indexOf(b) >= 0) continue;
                int goes = e.getValue().indexOf(b) >= 0 ? 1 : 0;
                text(new ClickEachTurn(), begun + (char) b, -1000 - begun.length() - goes);
                text(new ClickEachTurn(), begun + (char) b + "\0x;;", -1000 - begun.length() - goes);
            }
            if (e.getValue().indexOf(';') >= 0) {
                int answer = Checks.read(new ClickEachTurn(), begun + ";");
                Checks.due(3, "'" + begun + ";' has no place that lacks", answer == 1 || answer == -2000 ? 0 : answer, 0);
            }
            if (!begun.isEmpty() && !begun.endsWith(";")) text(new ClickEachTurn(), begun, -1000 - begun.length());
        }
    }

    /** "The end, if something lacks"; "at least one STATEMENT". */
    private static void someTextsThatLack() {
        text(new ClickEachTurn(), "", -1000);
        String whole = "f20;r10;qb00,0,1,1,1/1;";
        for (int end = 1; end <= whole.length(); end++) {
            int statements = end == 4 ? 1 : end == 8 ? 2 : end == whole.length() ? 3 : -1000 - end;
            text(new ClickEachTurn(), whole.substring(0, end), statements);
        }
        text(new ClickEachTurn(), ";", -1000);
        text(new ClickEachTurn(), "f20;;", -1004);
    }

    /** Kind 1 is told of the whole text ahead of kind 2 of any of it. */
    private static void formAheadOfSense() {
        text(new ClickEachTurn(), "f99;k1;r5;qp00,0,0,0;x", -1021);
        text(new ClickEachTurn(), "f19;f20", -1007);
        text(new ClickEachTurn(), "r10;r10;r10;r10;r10;r10;r", -1025);
        text(new ClickEachTurn(), "f0;;", -1003);
    }

    /** A number in every way in which 1 to 3 digits tell it. */
    private static List<String> ways(int v, int digits) {
        List<String> ways = new ArrayList<>();
        for (String s = "" + v; s.length() <= digits; s = "0" + s) ways.add(s);
        return ways;
    }

    private static void parts() {
        for (int v = 0; v <= 999; v++) {
            for (String s : ways(v, 3)) {
                part("f" + s + ";", 0, v >= 20 && v <= 60 ? v : -1, 44);
                part("k" + s + ";", 1, v >= 60 && v <= 140 ? v : -1, 108);
            }
        }
    }

    private static void part(String text, int what, int taken, int first) {
        ClickEachTurn x = new ClickEachTurn();
        text(x, text, taken < 0 ? -2000 : 1);
        Checks.due(3, "'" + text + "', then part(" + what + ")", x.part(what), taken < 0 ? first : taken);
    }

    private static void cogs() {
        for (int v = 0; v <= 999; v++) {
            boolean taken = v >= 10 && v <= 40;
            for (String s : ways(v, 3)) {
                ClickEachTurn x = new ClickEachTurn();
                text(x, "r" + s + ";", taken ? 1 : -2000);
                Checks.due(3, "cogs behind r" + s, x.count(1), taken ? 1 : 0);
                if (taken) Checks.due(3, "the cog r" + s, x.part(10), v);
            }
        }
    }

    private static void fault(String text, int what, int v, boolean taken) {
        ClickEachTurn x = new ClickEachTurn();
        text(x, text, taken ? 1 : -2000);
        Checks.due(3, "faults behind " + text, x.count(0), taken ? 1 : 0);
        if (taken) Checks.due(3, "'" + text + "', then fault(0, " + what + ")", x.fault(0, what), v);
    }

    /** PLACE 0 .. 99 and LOAD 0 .. 9 are all there is; WEIGHT and MINUTES are 1 .. 99. */
    private static void faultNumbers() {
        for (char kind : KINDS.toCharArray()) {
            String end = kind == 'b' ? ",1/1;" : ";";
            for (int v = 0; v <= 99; v++) {
                fault("q" + kind + v / 10 + v % 10 + ",3,4,5" + end, 1, v, true);
                if (v < 10) fault("q" + kind + "12," + v + ",4,5" + end, 2, v, true);
                for (String s : ways(v, 2)) {
                    fault("q" + kind + "12,3," + s + ",5" + end, 3, v, v > 0);
                    fault("q" + kind + "12,3,4," + s + end, 4, v, v > 0);
                }
            }
        }
    }

    /** A and B are 1 .. 20. */
    private static void ballNumbers() {
        for (int v = 0; v <= 99; v++) {
            for (String s : ways(v, 2)) {
                for (int part = 0; part <= 1; part++) {
                    String text = "r10;qb12,3,4,5," + (part == 0 ? s + "/7;" : "7/" + s + ";");
                    ClickEachTurn x = new ClickEachTurn();
                    boolean taken = v >= 1 && v <= 20;
                    text(x, text, taken ? 2 : -2004);
                    if (!taken) continue;
                    Checks.due(3, "'" + text + "', then rounds(0, 0, " + part + ")", x.rounds(0, 0, part), v);
                    Checks.due(3, "'" + text + "', then the other of rounds", x.rounds(0, 0, 1 - part), 7);
                }
            }
        }
    }

    private static void kinds() {
        for (int k = 0; k < 8; k++) {
            ClickEachTurn x = Checks.bike("q" + KINDS.charAt(k) + "12,3,4,5" + (k == 1 ? ",6/7;" : ";"));
            int[] want = {k, 12, 3, 4, 5, 0, 3};
            for (int what = 0; what < 7; what++) Checks.due(5, "kind " + k + ", fault(0, " + what + ")", x.fault(0, what), want[what]);
        }
    }

    /** "5 at most": the fifth is taken, the sixth not, whatever texts they came in. */
    private static void roomForCogs() {
        text(new ClickEachTurn(), "r10;r11;r12;r13;r14;", 5);
        text(new ClickEachTurn(), "r10;r11;r12;r13;r14;r15;", -2020);
        text(new ClickEachTurn(), "r10;f30;r11;r12;qp00,0,1,1;r13;r14;k99;r15;f19;", -2039);
        for (int first = 0; first <= 5; first++) {
            ClickEachTurn x = new ClickEachTurn();
            for (int i = 0; i < first; i++) text(x, "r1" + i + ";", 1);
            String more = "r20;r21;r22;r23;r24;";
            text(x, more.substring(0, 4 * (5 - first)) + "r40;", -2000 - 4 * (5 - first));
            Checks.due(3, "cogs behind a text that was too much", x.count(1), first);
            if (first < 5) text(x, more.substring(0, 4 * (5 - first)), 5 - first);
            Checks.due(3, "five cogs", x.count(1), 5);
            for (int i = 0; i < 5; i++) Checks.due(3, "cog " + i, x.part(10 + i), i < first ? 10 + i : 20 + i - first);
            text(x, "r10;", -2000);
            text(x, "r9;", -2000);
        }
    }

    /** "8 at most": the eighth is taken, the ninth not, whatever texts they came in. */
    private static void roomForFaults() {
        for (int first = 4; first <= 8; first++) {
            ClickEachTurn x = Checks.bike(FOUR_FAULTS);
            for (int i = 4; i < first; i++) text(x, "qs0" + i + ",0,1,1;", 1);
            String more = "qd20,0,1,1;qd21,0,1,1;qd22,0,1,1;qd23,0,1,1;".substring(0, 11 * (8 - first));
            text(x, "f30;" + more + "qp99,0,1,1;", -2004 - 11 * (8 - first));
            Checks.due(3, "faults behind a text that was too much", x.count(0), first);
            Checks.due(3, "its FRONT", x.part(0), 44);
            if (first < 8) text(x, more, 8 - first);
            Checks.due(3, "eight faults", x.count(0), 8);
            Checks.due(3, "the eighth's place", x.fault(7, 1), first < 8 ? 20 + 7 - first : 7);
            text(x, "qp00,0,1,1;", -2000);
            text(x, "k80;qb00,0,1,1,1/1;", -2004);
            text(x, "k80;", 1);
        }
    }

    /** "The place of the letter of the first STATEMENT that is not as it must be". */
    private static void firstStatementThatIsWrong() {
        String[] wrong = {"f19;", "f61;", "k59;", "k141;", "r9;", "r41;", "qp11,1,0,1;", "qs11,1,1,0;", "qb11,1,1,1,0/1;",
            "qb11,1,1,1,1/0;", "qb11,1,1,1,21/1;", "qb11,1,1,1,1/21;", "qb11,1,0,1,1/1;", "qb11,1,1,0,1/1;"};
        for (String one : wrong) {
            text(new ClickEachTurn(), one, -2000);
            text(new ClickEachTurn(), "f25;" + one, -2004);
            text(new ClickEachTurn(), "r12;qp00,0,1,1;" + one + "f99;", -2015);
            text(new ClickEachTurn(), one + one, -2000);
            text(new ClickEachTurn(), "f020;" + one + "f20;k60;", -2005);
        }
    }

    /** "Without it all of it comes, with it nothing." */
    private static void allOrNothing() {
        String right = "f30;k70;r12;qc11,2,3,4;";
        for (String end : new String[] {"x", "f", "f61;", "k59;", "r41;", "qp00,0,0,1;", "qp00,0,1,0;", "qb00,0,1,1,0/1;"}) {
            ClickEachTurn x = worn();
            Checks.due(3, "a text with " + end + " has a fault", Checks.read(x, right + end) <= -1000 ? 1 : 0, 1);
            Checks.same(3, "a text with " + end + " changed the object", Checks.all(worn()), Checks.all(x));
        }
        ClickEachTurn x = worn();
        text(x, right, 4);
        int[] got = {x.part(0), x.part(1), x.part(12), x.fault(2, 3), x.count(0), x.count(1)};
        int[] want = {30, 70, 12, 3, 3, 3};
        for (int i = 0; i < want.length; i++) Checks.due(3, "all of a text comes, " + i, got[i], want[i]);
    }

    private static ClickEachTurn worn() {
        ClickEachTurn x = Checks.bike("f33;r10;r13;qt50,2,3,4;qd50,1,5,6;");
        x.stage(0, 1, 7);
        x.go();
        x.oil();
        x.row(3);
        return x;
    }

    /** "64 bytes at most": all 64 are read, and the last places of faults are told. */
    private static void fullTapes() {
        String twelve = "f020;f021;f022;f023;f024;f025;f026;f027;f028;f029;f030;f031;";
        ClickEachTurn x = new ClickEachTurn();
        text(x, twelve + "f32;", 13);
        Checks.due(3, "the last of 64 bytes", x.part(0), 32);
        text(x, twelve + "f032", -1064);
        text(x, twelve + "f03x", -1063);
        text(x, twelve + "f99;", -2060);
        text(x, twelve + "qp00", -1064);
        Checks.due(3, "nothing came of these", x.part(0), 32);
        text(x, "f1;f1;f1;f1;f1;f1;f1;f1;f1;f1;f1;f1;f1;f1;f1;f1;f1;f1;f1;f1;f1;f", -1064);
        text(x, FOUR_FAULTS + "r10;r11;r12;r13;r14;", 9);
        text(x, FOUR_FAULTS + "f60;f60;f60;f60;k99;", 9);
        Checks.due(3, "the eighth fault", x.fault(7, 1), 4);
        Checks.due(3, "the links", x.part(1), 99);
    }

    /** A text changes what stands, the last that it tells of it, and adds to it; the ride stays. */
    private static void laterTexts() {
        ClickEachTurn x = Checks.bike("f020;k060;r010;f60;k140;r40;");
        text(x, "f21;k61;f22;r11;", 4);
        int[] want = {22, 61};
        for (int i = 0; i < 2; i++) Checks.due(3, "part(" + i + ")", x.part(i), want[i]);
        int[] cogs = {10, 40, 11};
        for (int i = 0; i < 3; i++) Checks.due(3, "cog " + i, x.part(10 + i), cogs[i]);
        ClickEachTurn y = Checks.bike("r10;qp50,0,1,1;");
        y.stage(0, 0, 1);
        y.stage(4, 0, 2);
        y.go();
        text(y, "qd10,0,1,1;", 1);
        Checks.due(3, "the ride stays", y.count(2), 2);
        Checks.due(3, "the turns stay", y.count(3), 3);
        Checks.due(3, "the new one clicks in the ride", y.counts(1), 1);
    }
}
