import java.util.Random;

/** Random runs of calls on new objects, each answer compared with the plain model's. */
public final class RandomRunsTest {
    private static final int RUNS = 1500;
    private static final int CALLS = 200;
    private static final String KINDS = "pbltodcs";

    private final Random random;
    private final ClickEachTurn x = new ClickEachTurn();
    private final PlainModel m = new PlainModel();
    private final StringBuilder log = new StringBuilder();
    private boolean wrong = false;

    private RandomRunsTest(long seed) { random = new Random(seed); }

    public static void main(String[] args) {
        int failed = 0;
        for (int run = 0; run < RUNS && failed < 3; run++) {
            RandomRunsTest test = new RandomRunsTest(run);
            test.run();
            if (test.wrong) {
                failed++;
                System.out.println("random run " + run + ":\n" + test.log);
            }
        }
        System.out.println(failed == 0 ? RUNS + " random runs agree with the plain model" : "random runs differ");
        if (failed != 0) System.exit(1);
    }

    private void run() {
        if (random.nextInt(8) != 0) text(bike());
        for (int i = 0; i < CALLS && !wrong; i++) call();
        for (int what = -1; what < 18 && !wrong; what++) same("count " + what, x.count(what), m.count(what));
    }

    private void same(String call, int got, int due) {
        log.append(call).append(" -> ").append(got);
        if (got != due) {
            log.append(", due is ").append(due);
            wrong = true;
        }
        log.append('\n');
    }

    private int to(int most) { return random.nextInt(most + 1); }

    /** Mostly a number of the range, now and then one just outside or far away. */
    private int about(int least, int most) {
        switch (to(24)) {
            case 0: return least - 1;
            case 1: return most + 1;
            case 2: return random.nextBoolean() ? Integer.MAX_VALUE : Integer.MIN_VALUE;
            case 3: return least;
            case 4: return most;
            default: return least + to(Math.max(0, most - least));
        }
    }

    private String number(int least, int most) {
        int v = to(20) == 0 ? (random.nextBoolean() ? most + 1 : Math.max(0, least - 1)) : least + to(most - least);
        return (to(5) == 0 && v < 10 ? "0" : "") + v;
    }

    private String aFault() {
        char kind = KINDS.charAt(to(7));
        String s = "q" + kind + to(9) + to(9) + "," + (to(2) == 0 ? to(2) : to(9)) + "," + number(1, 99) + "," + number(1, 99);
        return kind == 'b' ? s + "," + number(1, 20) + "/" + number(1, 20) + ";" : s + ";";
    }

    private String statement() {
        switch (to(9)) {
            case 0: return "f" + number(20, 60) + ";";
            case 1: return "k" + number(60, 140) + ";";
            case 2: return "r" + number(10, 40) + ";";
            default: return aFault();
        }
    }

    private String bike() {
        StringBuilder text = new StringBuilder();
        for (int i = to(3); i > 0; i--) text.append("r").append(number(10, 40)).append(";");
        for (int i = 1 + to(4); i > 0; i--) text.append(statement());
        if (text.length() > 64) text.setLength(text.substring(0, 64).lastIndexOf(";") + 1);
        if (to(9) == 0) spoil(text);
        return text.toString();
    }

    private void spoil(StringBuilder text) {
        int place = to(text.length() - 1);
        String signs = "fkrqpbltodcs0123456789,;/x\0\u00ff";
        switch (to(2)) {
            case 0: text.deleteCharAt(place); break;
            case 1: text.insert(place, signs.charAt(to(signs.length() - 1))); break;
            default: text.setCharAt(place, signs.charAt(to(signs.length() - 1)));
        }
    }

    private void text(String text) {
        for (int at = 0; at < text.length(); at += 8) {
            int n = Math.min(8, text.length() - at);
            long bytes = n < 8 ? random.nextLong() << 8 * n : 0;
            for (int i = 0; i < n; i++) bytes |= (long) text.charAt(at + i) << 8 * i;
            same("feed '" + text.substring(at, at + n) + "'", x.feed(n, bytes), m.feed(n, bytes));
        }
        same("bicycle", x.bicycle(), m.bicycle());
    }

    private int f() { return about(0, m.count(0) - 1); }
    private int g() { return about(0, m.count(1) - 1); }

    /** A count that some fault or two may well have. */
    private int aCount() {
        if (to(3) == 0 || m.count(0) == 0) return about(0, to(3) == 0 ? 9999 : 200);
        int count = x.counts(to(m.count(0) - 1));
        return random.nextBoolean() ? count : count + x.counts(to(m.count(0) - 1));
    }

    private int off() { return to(3) == 0 ? about(0, 9999) : about(0, 30); }

    private void call() {
        int a, b, c, d, e;
        switch (to(40)) {
            case 0: text(bike()); break;
            case 1:
                a = about(1, 8);
                long bytes = random.nextLong();
                same("feed " + a + " " + bytes, x.feed(a, bytes), m.feed(a, bytes));
                break;
            case 2: same("bicycle", x.bicycle(), m.bicycle()); break;
            case 3: a = about(0, 16); same("part " + a, x.part(a), m.part(a)); break;
            case 4: case 5: a = f(); b = about(0, 6); same("fault " + a + " " + b, x.fault(a, b), m.fault(a, b)); break;
            case 6: a = f(); b = g(); c = about(0, 1);
                same("rounds " + a + " " + b + " " + c, x.rounds(a, b, c), m.rounds(a, b, c)); break;
            case 7: a = about(0, 5); b = about(0, 99); same("load " + a + " " + b, x.load(a, b), m.load(a, b)); break;
            case 8: case 9: a = about(0, 3); b = about(0, new int[] {9, 1, 100, 99}[Math.floorMod(a, 4)]);
                same("set " + a + " " + b, x.set(a, b), m.set(a, b)); break;
            case 10: same("oil", x.oil(), m.oil()); break;
            case 11: case 12: case 13: a = about(0, 5); b = g(); c = about(1, to(2) == 0 ? 60 : 12);
                same("stage " + a + " " + b + " " + c, x.stage(a, b, c), m.stage(a, b, c)); break;
            case 14: a = about(0, m.count(2) - 1); b = about(0, 2);
                same("stageOf " + a + " " + b, x.stageOf(a, b), m.stageOf(a, b)); break;
            case 15: same("drop", x.drop(), m.drop()); break;
            case 16: case 17: a = f(); same("counts " + a, x.counts(a), m.counts(a)); break;
            case 18: a = f(); b = about(0, 5); c = g(); d = about(1, 60);
                same("stageCounts " + a + " " + b + " " + c + " " + d, x.stageCounts(a, b, c, d), m.stageCounts(a, b, c, d)); break;
            case 19: a = f(); b = about(0, 60); same("when " + a + " " + b, x.when(a, b), m.when(a, b)); break;
            case 20: a = random.nextInt(); same("heard " + a, x.heard(a), m.heard(a)); break;
            case 21: case 22: same("go", x.go(), m.go()); break;
            case 23: a = aCount(); b = off(); same("fit " + a + " " + b, x.fit(a, b), m.fit(a, b)); break;
            case 24: a = f(); b = aCount(); c = off(); d = about(0, 1);
                same("odds " + a + " " + b + " " + c + " " + d, x.odds(a, b, c, d), m.odds(a, b, c, d)); break;
            case 25: a = aCount(); b = off(); c = about(-1, 12);
                same("twos " + a + " " + b + " " + c, x.twos(a, b, c), m.twos(a, b, c)); break;
            case 26: a = f(); b = f(); same("apart " + a + " " + b, x.apart(a, b), m.apart(a, b)); break;
            case 27: a = about(1, to(3) == 0 ? 60 : 15); b = about(0, 1); same("tells " + a + " " + b, x.tells(a, b), m.tells(a, b)); break;
            case 28: a = f(); b = f(); c = about(0, 5); d = g(); e = to(3) == 0 ? about(1, 999) : about(1, 20);
                same("length " + a + " " + b + " " + c + " " + d + " " + e, x.length(a, b, c, d, e), m.length(a, b, c, d, e)); break;
            case 29: a = f(); b = f(); c = g(); same("beat " + a + " " + b + " " + c, x.beat(a, b, c), m.beat(a, b, c)); break;
            case 30: a = about(0, 1); same("away " + a, x.away(a), m.away(a)); break;
            case 31: a = f(); same("danger " + a, x.danger(a), m.danger(a)); break;
            case 32: a = about(-1, 6); same("least " + a, x.least(a), m.least(a)); break;
            case 33: a = to(3) == 0 ? about(0, 32767) : to(8); same("row " + a, x.row(a), m.row(a)); break;
            case 34: same("judge", x.judge(), m.judge()); break;
            case 35: same("held", x.held(), m.held()); break;
            case 36: same("image", x.image(), m.image()); break;
            case 37: same("on", x.on(), m.on()); break;
            case 38: tellAll(false); break;
            case 39: tellAll(true); break;
            default: a = about(-1, 18); same("count " + a, x.count(a), m.count(a));
        }
    }

    /** Rows that are nearly right: the counts for judge, an order for held. */
    private void tellAll(boolean asOrder) {
        same("judge", x.judge(), m.judge());
        int n = m.count(0);
        int shift = to(7);
        for (int i = 0; i < n; i++) {
            int v = asOrder ? (i + shift) % n : x.counts(i);
            if (to(15) == 0) v++;
            same("row " + v, x.row(v), m.row(v));
        }
        if (to(9) == 0) same("row 0", x.row(0), m.row(0));
        if (asOrder) same("held", x.held(), m.held());
        else same("judge", x.judge(), m.judge());
    }
}
