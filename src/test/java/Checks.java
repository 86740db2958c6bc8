import java.util.function.Supplier;
import java.util.function.ToIntFunction;

/** What the promise tests share: answers that are due, refusals that change nothing else. */
final class Checks {
    private static int wrong = 0;
    private static int done = 0;

    private Checks() { }

    static void due(int promise, String what, int got, int want) {
        done++;
        if (got != want) {
            wrong++;
            System.out.println("promise " + promise + ": " + what + " answered " + got + ", due is " + want);
        }
    }

    static void same(int promise, String what, String before, String after) {
        done++;
        if (!before.equals(after)) {
            wrong++;
            System.out.println("promise " + promise + ": " + what + ": before " + before + ", after " + after);
        }
    }

    /** The call must answer the refusal, count it, and leave the object as its untouched twin is. */
    static void refused(int promise, String what, Supplier<ClickEachTurn> made, int number, ToIntFunction<ClickEachTurn> call) {
        refused(promise, what, made, all(made.get()), number, call);
    }

    /** As above, with all of the untouched twin told. */
    static void refused(int promise, String what, Supplier<ClickEachTurn> made, String twin, int number,
            ToIntFunction<ClickEachTurn> call) {
        ClickEachTurn x = made.get();
        int[] counted = refusals(x);
        due(promise, what, call.applyAsInt(x), number);
        int[] after = refusals(x);
        for (int i = 1; i <= 6; i++) {
            due(promise, what + ", then count(" + (10 + i) + ")", after[i], counted[i] + (i == -number ? 1 : 0));
        }
        same(promise, what + " changed the object", twin, all(x));
    }

    /** The call must answer something else than a refusal, and none may be counted. */
    static void taken(int promise, String what, Supplier<ClickEachTurn> made, ToIntFunction<ClickEachTurn> call) {
        ClickEachTurn x = made.get();
        int[] counted = refusals(x);
        int got = call.applyAsInt(x);
        due(promise, what + " is refused by " + got + "; refused", got < 0 && got > -7 ? 1 : 0, 0);
        int[] after = refusals(x);
        for (int i = 1; i <= 6; i++) due(promise, what + ", then count(" + (10 + i) + ")", after[i], counted[i]);
    }

    static int[] refusals(ClickEachTurn x) {
        int[] counted = new int[7];
        for (int i = 1; i <= 6; i++) counted[i] = x.count(10 + i);
        return counted;
    }

    /** All that can be read of an object without a change and without a refusal. */
    static String view(ClickEachTurn x) {
        StringBuilder s = new StringBuilder();
        for (int what = 0; what <= 7; what++) s.append(x.count(what)).append(' ');
        s.append("| ").append(x.part(0)).append(' ').append(x.part(1));
        for (int g = 0; g < x.count(1); g++) s.append(' ').append(x.part(10 + g));
        for (int f = 0; f < x.count(0); f++) {
            s.append(" |");
            for (int what = 0; what <= 6; what++) s.append(' ').append(x.fault(f, what));
            if (x.count(1) > 0) s.append(' ').append(x.rounds(f, 0, 0)).append(' ').append(x.rounds(f, 0, 1));
            s.append(' ').append(x.counts(f));
        }
        for (int i = 0; i < x.count(2); i++) {
            s.append(" |");
            for (int what = 0; what <= 2; what++) s.append(' ').append(x.stageOf(i, what));
        }
        s.append(" |");
        for (int what = 0; what <= 3; what++) {
            int v = x.set(what, 0);
            x.set(what, v);
            s.append(' ').append(v);
        }
        return s.toString();
    }

    /**
     * All that can be found out of an object: its row, its tape and its image too. It is used up by
     * that, and by no more calls than an object is good for.
     */
    static String all(ClickEachTurn x) {
        StringBuilder s = new StringBuilder(view(x));
        s.append(" || ").append(x.held()).append(' ').append(x.judge()).append(' ').append(x.bicycle());
        for (int what = 0; what <= 7; what++) s.append(' ').append(x.count(what));
        s.append(' ').append(x.part(0)).append(' ').append(x.part(1)).append(' ').append(x.part(9 + x.count(1)));
        s.append(" || ").append(x.on()).append(" || ").append(view(x));
        return s.toString();
    }

    static void feed(ClickEachTurn x, String text) {
        for (int at = 0; at < text.length(); at += 8) {
            int n = Math.min(8, text.length() - at);
            long bytes = 0;
            for (int i = 0; i < n; i++) bytes |= (long) text.charAt(at + i) << 8 * i;
            x.feed(n, bytes);
        }
    }

    static int read(ClickEachTurn x, String text) {
        feed(x, text);
        return x.bicycle();
    }

    /** A new object with all these texts read; each must be right. */
    static ClickEachTurn bike(String... texts) {
        ClickEachTurn x = new ClickEachTurn();
        for (String text : texts) {
            if (read(x, text) < 0) throw new IllegalStateException("not a bicycle: " + text);
        }
        return x;
    }

    /** A bicycle of as many faults, the f-th with a weight of f + 1 and as many minutes. */
    static ClickEachTurn faults(int n) {
        ClickEachTurn x = new ClickEachTurn();
        for (int f = 1; f <= n; f++) read(x, "qp00,0," + f + "," + f + ";");
        return x;
    }

    static void finish(String name) {
        System.out.println(name + ": " + (done - wrong) + " of " + done + " answers are as due");
        if (wrong != 0) System.exit(1);
    }
}
