/**
 * A bicycle whose faults click as they come by under load, ridden in mind or for real.
 * The document's numbered promises say what each public method answers.
 */
public final class ClickEachTurn {
    private static final int NOBODY = -1;
    private static final int OTHER = -2;
    private static final int STATE = -3;
    private static final int BELOW = -4;
    private static final int ROOM = -6;
    private static final int NONE = -9;

    private static final int BROKEN_FORM = -1000;
    private static final int BROKEN_SENSE = -2000;

    private static final int MOST_BYTES = 64;
    private static final int MOST_COGS = 5;
    private static final int MOST_FAULTS = 8;
    private static final int MOST_STAGES = 8;
    private static final int MOST_TOLD = 8;
    private static final int MOST_ORDERED = 6;
    private static final int MOST_TURNS = 60;
    private static final int MOST_RIDDEN = 9999;
    private static final int MOST_COUNT = 9999;
    private static final int MOST_TOLD_COUNT = 32767;
    private static final int MOST_UNLIKE = 999;

    private static final int STEPS = 100;
    private static final int BEAT_STEPS = 2000;
    private static final int APART_TURNS = 20;
    private static final int CRACK_TURNS = 20;

    private static final int BALL = 1;
    private static final int LINK = 2;
    private static final int TOOTH = 3;
    private static final int LOOSE = 4;
    private static final int DRY = 5;
    private static final int CRACKED = 6;
    private static final int STRUCK = 7;

    private static final int SIT = 0;
    private static final int STAND = 1;
    private static final int NO_HANDS = 2;
    private static final int LEFT = 3;
    private static final int BACK = 4;
    private static final int ACTS = 6;
    private static final int ACTS_ON = 4;

    private static final int HILL = 0;
    private static final int SHOE = 1;
    private static final int SLIPS = 2;
    private static final int OILED = 3;
    private static final int SETTINGS = 4;
    private static final int[] MOST_SETTING = {9, 1, 100, 99};

    private final Tape tape;
    private final Bike now;
    private final Bike draft;
    private final Bike kept;
    private boolean hasKept;
    private final Rider one;
    private final Rider two;
    private final int[] clicks;
    private final int[] order;
    private final int[] told;
    private int toldSize;
    private final int[] refusals;

    public ClickEachTurn() {
        tape = new Tape();
        now = new Bike();
        draft = new Bike();
        kept = new Bike();
        hasKept = false;
        one = new Rider(now);
        two = new Rider(now);
        clicks = new int[MOST_FAULTS];
        order = new int[MOST_FAULTS];
        told = new int[MOST_TOLD];
        toldSize = 0;
        refusals = new int[7];
    }

    public int feed(int n, long bytes) {
        if (n < 1) {
            return refuse(BELOW);
        }
        if (n > 8 || tape.size + n > MOST_BYTES) {
            return refuse(ROOM);
        }
        for (int i = 0; i < n; i++) {
            tape.add((int) (bytes >>> (8 * i)) & 255);
        }
        return tape.size;
    }

    public int bicycle() {
        int answer = tape.checkForm();
        if (answer >= 0) {
            answer = takeStatements(answer);
        }
        tape.size = 0;
        return answer;
    }

    public int part(int what) {
        if (what == 0) {
            return now.front;
        }
        if (what == 1) {
            return now.links;
        }
        if (what < 10) {
            return refuse(OTHER);
        }
        int gear = what - 10;
        return isGear(gear) ? now.cogs[gear] : refuse(NOBODY);
    }

    public int fault(int fault, int what) {
        if (!isFault(fault)) {
            return refuse(NOBODY);
        }
        Fault f = now.faults[fault];
        switch (what) {
            case 0: return f.kind;
            case 1: return f.place;
            case 2: return f.ownLoad;
            case 3: return f.weight;
            case 4: return f.minutes;
            case 5: return f.at;
            case 6: return f.limitAfter(now.ridden);
            default: return refuse(OTHER);
        }
    }

    public int rounds(int fault, int gear, int part) {
        if (!isFault(fault) || !isGear(gear)) {
            return refuse(NOBODY);
        }
        if (part != 0 && part != 1) {
            return refuse(OTHER);
        }
        Fault f = now.faults[fault];
        return part == 0 ? now.upOf(f) : now.downOf(f, gear);
    }

    public int load(int act, int step) {
        if (!isAct(act)) {
            return refuse(NOBODY);
        }
        if (step < 0) {
            return refuse(BELOW);
        }
        if (step >= STEPS) {
            return refuse(ROOM);
        }
        return now.loadIn(act, step);
    }

    public int set(int what, int v) {
        if (what < 0 || what >= SETTINGS) {
            return refuse(OTHER);
        }
        if (v < 0) {
            return refuse(BELOW);
        }
        if (v > MOST_SETTING[what]) {
            return refuse(ROOM);
        }
        int before = now.settings[what];
        now.settings[what] = v;
        return before;
    }

    public int oil() {
        now.oiledAfter = now.ridden;
        int dry = 0;
        for (int i = 0; i < now.faultCount; i++) {
            dry += now.faults[i].kind == DRY ? 1 : 0;
        }
        return dry;
    }

    public int stage(int act, int gear, int turns) {
        if (!isAct(act) || !isGear(gear)) {
            return refuse(NOBODY);
        }
        if (turns < 1) {
            return refuse(BELOW);
        }
        if (turns > MOST_TURNS || now.stageCount >= MOST_STAGES) {
            return refuse(ROOM);
        }
        now.addStage(act, gear, turns);
        return now.stageCount;
    }

    public int stageOf(int i, int what) {
        if (i < 0 || i >= now.stageCount) {
            return refuse(NOBODY);
        }
        switch (what) {
            case 0: return now.stageActs[i];
            case 1: return now.stageGears[i];
            case 2: return now.stageTurns[i];
            default: return refuse(OTHER);
        }
    }

    public int drop() {
        int had = now.stageCount;
        now.stageCount = 0;
        return had;
    }

    public int counts(int fault) {
        if (!isFault(fault)) {
            return refuse(NOBODY);
        }
        return one.passRide(now.faults[fault], NONE);
    }

    public int stageCounts(int fault, int act, int gear, int turns) {
        if (!isFault(fault) || !isAct(act) || !isGear(gear)) {
            return refuse(NOBODY);
        }
        if (turns < 1) {
            return refuse(BELOW);
        }
        if (turns > MOST_TURNS) {
            return refuse(ROOM);
        }
        return clicksInStage(fault, act, gear, turns);
    }

    public int when(int fault, int i) {
        if (!isFault(fault)) {
            return refuse(NOBODY);
        }
        if (i < 0) {
            return refuse(BELOW);
        }
        one.passRide(now.faults[fault], i);
        return one.foundStep;
    }

    /** Only how many are missed is asked, so the clicks need no sorting by steps: each takes one draw. */
    public int heard(int z) {
        listenToRide();
        int all = 0;
        for (int i = 0; i < now.faultCount; i++) {
            all += clicks[i];
        }
        int seed = z;
        int missed = 0;
        for (int i = 0; i < all; i++) {
            seed = seed * 1664525 + 1013904223;
            int draw = (seed & 0x7fffffff) / 256 % 100;
            missed += draw < now.settings[SLIPS] ? 1 : 0;
        }
        return all - missed;
    }

    public int go() {
        if (now.stageCount == 0) {
            return refuse(STATE);
        }
        int after = now.ridden + now.turnsOfRide();
        if (after > MOST_RIDDEN) {
            return refuse(ROOM);
        }
        for (int i = 0; i < now.faultCount; i++) {
            one.passRide(now.faults[i], NONE);
            now.faults[i].copyFrom(one.fault);
        }
        now.ridden = after;
        return after;
    }

    public int fit(int count, int off) {
        if (count < 0 || off < 0) {
            return refuse(BELOW);
        }
        if (count > MOST_COUNT || off > MOST_COUNT) {
            return refuse(ROOM);
        }
        return fittingBits(count, off);
    }

    public int odds(int fault, int count, int off, int part) {
        if (!isFault(fault)) {
            return refuse(NOBODY);
        }
        if (part != 0 && part != 1) {
            return refuse(OTHER);
        }
        if (count < 0 || off < 0) {
            return refuse(BELOW);
        }
        if (count > MOST_COUNT || off > MOST_COUNT) {
            return refuse(ROOM);
        }
        int bits = fittingBits(count, off);
        if ((bits >> fault & 1) == 0) {
            return refuse(STATE);
        }
        return leastTerm(now.faults[fault].weight, now.weightOf(bits), part);
    }

    public int twos(int count, int off, int i) {
        if (count < 0 || off < 0 || i < -1) {
            return refuse(BELOW);
        }
        if (count > MOST_COUNT || off > MOST_COUNT) {
            return refuse(ROOM);
        }
        listenToRide();
        int found = 0;
        for (int a = 0; a < now.faultCount; a++) {
            for (int b = a + 1; b < now.faultCount; b++) {
                if (isWithin(clicks[a] + clicks[b], count, off)) {
                    if (found == i) {
                        return 10 * a + b;
                    }
                    found++;
                }
            }
        }
        return i == -1 ? found : NONE;
    }

    public int apart(int a, int b) {
        if (!areTwoFaults(a, b)) {
            return refuse(NOBODY);
        }
        for (int act = 0; act < ACTS_ON; act++) {
            for (int gear = 0; gear < now.cogCount; gear++) {
                int ofA = clicksInStage(a, act, gear, APART_TURNS);
                if (ofA != clicksInStage(b, act, gear, APART_TURNS)) {
                    return 10 * act + gear;
                }
            }
        }
        return NONE;
    }

    public int tells(int n, int what) {
        if (what != 0 && what != 1) {
            return refuse(OTHER);
        }
        if (n < 1) {
            return refuse(BELOW);
        }
        if (n > MOST_TURNS) {
            return refuse(ROOM);
        }
        if (now.cogCount == 0 || now.faultCount == 0) {
            return refuse(STATE);
        }
        int best = NONE;
        int most = 0;
        for (int act = 0; act < ACTS_ON; act++) {
            for (int gear = 0; gear < now.cogCount; gear++) {
                int unlike = unlikeCounts(act, gear, n);
                if (unlike > most) {
                    most = unlike;
                    best = 10 * act + gear;
                }
            }
        }
        return what == 0 ? best : most;
    }

    public int length(int a, int b, int act, int gear, int d) {
        if (!areTwoFaults(a, b) || !isAct(act) || !isGear(gear)) {
            return refuse(NOBODY);
        }
        if (d < 1) {
            return refuse(BELOW);
        }
        if (d > MOST_UNLIKE) {
            return refuse(ROOM);
        }
        one.begin(now.faults[a], NONE);
        two.begin(now.faults[b], NONE);
        // A stage of n turns is n stages of one turn in one gear: AT keeps its parts between them.
        for (int turns = 1; turns <= MOST_TURNS; turns++) {
            one.passStage(act, gear, 1);
            two.passStage(act, gear, 1);
            if (!isWithin(one.clicks, two.clicks, d - 1)) {
                return turns;
            }
        }
        return NONE;
    }

    public int beat(int a, int b, int gear) {
        if (!areTwoFaults(a, b) || !isGear(gear)) {
            return refuse(NOBODY);
        }
        one.begin(now.faults[a], NONE);
        two.begin(now.faults[b], NONE);
        one.shiftTo(gear);
        two.shiftTo(gear);
        for (int step = 0; step < BEAT_STEPS; step++) {
            if (one.comesByIn(step) && two.comesByIn(step)) {
                return step;
            }
        }
        return NONE;
    }

    public int away(int part) {
        if (part != 0 && part != 1) {
            return refuse(OTHER);
        }
        if (now.faultCount == 0) {
            return refuse(STATE);
        }
        int dry = 0;
        for (int i = 0; i < now.faultCount; i++) {
            dry += now.faults[i].kind == DRY ? now.faults[i].weight : 0;
        }
        return leastTerm(dry, now.weightOf(-1), part);
    }

    public int danger(int fault) {
        if (!isFault(fault)) {
            return refuse(NOBODY);
        }
        Fault f = now.faults[fault];
        if (f.kind != CRACKED) {
            return refuse(STATE);
        }
        return Math.max(0, f.ownLoad * CRACK_TURNS - now.ridden);
    }

    public int least(int i) {
        if (i < -1) {
            return refuse(BELOW);
        }
        if (now.faultCount > MOST_ORDERED) {
            return refuse(ROOM);
        }
        if (i >= now.faultCount) {
            return NONE;
        }
        findLeastOrder();
        return i == -1 ? sumOf(order) : order[i];
    }

    public int row(int v) {
        if (v < 0) {
            return refuse(BELOW);
        }
        if (v > MOST_TOLD_COUNT || toldSize >= MOST_TOLD) {
            return refuse(ROOM);
        }
        told[toldSize] = v;
        toldSize++;
        return toldSize;
    }

    public int judge() {
        int size = toldSize;
        toldSize = 0;
        listenToRide();
        int both = Math.min(size, now.faultCount);
        for (int i = 0; i < both; i++) {
            if (told[i] != clicks[i]) {
                return i;
            }
        }
        return size == now.faultCount ? NONE : both;
    }

    public int held() {
        if (!isToldEachFaultOnce()) {
            return refuse(STATE);
        }
        if (now.faultCount > MOST_ORDERED) {
            return refuse(ROOM);
        }
        findLeastOrder();
        toldSize = 0;
        return sumOf(told) - sumOf(order);
    }

    public int image() {
        kept.copyFrom(now);
        hasKept = true;
        return kept.faultCount;
    }

    public int on() {
        if (!hasKept) {
            return refuse(STATE);
        }
        now.copyFrom(kept);
        return now.faultCount;
    }

    public int count(int what) {
        if (what >= 11 && what <= 16) {
            return refusals[what - 10];
        }
        switch (what) {
            case 0: return now.faultCount;
            case 1: return now.cogCount;
            case 2: return now.stageCount;
            case 3: return now.ridden;
            case 4: return now.wasOiled() ? now.ridden - now.oiledAfter : NONE;
            case 5: return tape.size;
            case 6: return toldSize;
            case 7: return now.weightOf(-1);
            default: return NONE;
        }
    }

    private int refuse(int number) {
        int slot = -number;
        if (slot > 0 && slot < refusals.length) {
            refusals[slot]++;
        }
        return number;
    }

    private boolean isFault(int fault) {
        return fault >= 0 && fault < now.faultCount;
    }

    private boolean areTwoFaults(int a, int b) {
        return isFault(a) && isFault(b) && a != b;
    }

    private boolean isGear(int gear) {
        return gear >= 0 && gear < now.cogCount;
    }

    private static boolean isAct(int act) {
        return act >= 0 && act < ACTS;
    }

    private static boolean isWithin(int a, int b, int off) {
        return Math.abs(a - b) <= off;
    }

    /** All statements are tried on a draft, so that a wrong one leaves the bicycle as it was. */
    private int takeStatements(int statements) {
        draft.copyFrom(now);
        tape.place = 0;
        for (int i = 0; i < statements; i++) {
            int start = tape.place;
            if (!tape.readStatement() || !draft.takeStatement(tape)) {
                return BROKEN_SENSE - start;
            }
        }
        now.copyFrom(draft);
        return statements;
    }

    private int clicksInStage(int fault, int act, int gear, int turns) {
        one.begin(now.faults[fault], NONE);
        one.passStage(act, gear, turns);
        return one.clicks;
    }

    private void listenToRide() {
        for (int i = 0; i < now.faultCount; i++) {
            clicks[i] = one.passRide(now.faults[i], NONE);
        }
    }

    private int fittingBits(int count, int off) {
        listenToRide();
        int bits = 0;
        for (int i = 0; i < now.faultCount; i++) {
            if (isWithin(clicks[i], count, off)) {
                bits |= 1 << i;
            }
        }
        return bits;
    }

    private int unlikeCounts(int act, int gear, int turns) {
        int unlike = 0;
        for (int i = 0; i < now.faultCount; i++) {
            clicks[i] = clicksInStage(i, act, gear, turns);
            boolean isNew = true;
            for (int j = 0; j < i; j++) {
                isNew = isNew && clicks[j] != clicks[i];
            }
            unlike += isNew ? 1 : 0;
        }
        return unlike;
    }

    private static int leastTerm(int up, int down, int part) {
        int term = part == 0 ? up : down;
        for (int divisor = down; divisor > 1; divisor--) {
            if (up % divisor == 0 && down % divisor == 0) {
                return term / divisor;
            }
        }
        return term;
    }

    /** The rest of a division, never below 0; what has no round stands at 0. */
    private static int wrap(int parts, int round) {
        if (round < 1) {
            return 0;
        }
        int rest = parts % round;
        return rest < 0 ? rest + round : rest;
    }

    /**
     * Least sum: by minutes over weight. All orders with the least sum differ only among equals of
     * that, so keeping equals by their numbers gives the first of them.
     */
    private void findLeastOrder() {
        for (int i = 0; i < now.faultCount; i++) {
            int slot = i;
            while (slot > 0 && now.faults[i].goesAheadOf(now.faults[order[slot - 1]])) {
                order[slot] = order[slot - 1];
                slot--;
            }
            order[slot] = i;
        }
    }

    private int sumOf(int[] faults) {
        int sum = 0;
        int minutes = 0;
        for (int i = 0; i < now.faultCount; i++) {
            Fault f = now.faults[faults[i]];
            minutes += f.minutes;
            sum += f.weight * minutes;
        }
        return sum;
    }

    private boolean isToldEachFaultOnce() {
        if (toldSize != now.faultCount) {
            return false;
        }
        int seen = 0;
        for (int i = 0; i < toldSize; i++) {
            if (!isFault(told[i]) || (seen >> told[i] & 1) != 0) {
                return false;
            }
            seen |= 1 << told[i];
        }
        return true;
    }

    /** The bytes that were fed, and the statement that was read last from them. */
    private static final class Tape {
        final int[] bytes;
        int size;
        int place;
        int letter;
        int kind;
        final int[] numbers;

        Tape() {
            bytes = new int[MOST_BYTES];
            size = 0;
            place = 0;
            letter = 0;
            kind = 0;
            numbers = new int[6];
        }

        void add(int value) {
            if (size < bytes.length) {
                bytes[size] = value;
                size++;
            }
        }

        /** How many statements there are, or where the form breaks. */
        int checkForm() {
            place = 0;
            for (int i = 1; i <= size; i++) {
                if (!readStatement()) {
                    return BROKEN_FORM - place;
                }
                if (place >= size) {
                    return i;
                }
            }
            return BROKEN_FORM - place;
        }

        /** Where it answers false, place is at the byte that can't stand there. */
        boolean readStatement() {
            letter = peek();
            if (letter == 'q') {
                place++;
                return readFault() && skip(';');
            }
            if (letter != 'f' && letter != 'k' && letter != 'r') {
                return false;
            }
            place++;
            return readNumber(0, 1, 3) && skip(';');
        }

        private boolean readFault() {
            kind = kindOf(peek());
            if (kind < 0) {
                return false;
            }
            place++;
            return readNumber(0, 2, 2) && skip(',')
                && readNumber(1, 1, 1) && skip(',')
                && readNumber(2, 1, 2) && skip(',')
                && readNumber(3, 1, 2) && (kind != BALL || readBall());
        }

        private boolean readBall() {
            return skip(',') && readNumber(4, 1, 2) && skip('/') && readNumber(5, 1, 2);
        }

        private boolean readNumber(int slot, int leastDigits, int mostDigits) {
            int value = 0;
            int digits = 0;
            while (digits < mostDigits && peek() >= '0' && peek() <= '9') {
                value = value * 10 + peek() - '0';
                place++;
                digits++;
            }
            numbers[slot] = value;
            return digits >= leastDigits;
        }

        private boolean skip(int wanted) {
            if (peek() != wanted) {
                return false;
            }
            place++;
            return true;
        }

        private int peek() {
            return place >= 0 && place < size && size <= bytes.length ? bytes[place] : -1;
        }

        private static int kindOf(int letter) {
            switch (letter) {
                case 'p': return 0;
                case 'b': return BALL;
                case 'l': return LINK;
                case 't': return TOOTH;
                case 'o': return LOOSE;
                case 'd': return DRY;
                case 'c': return CRACKED;
                case 's': return STRUCK;
                default: return -1;
            }
        }
    }

    /** One fault: how it is, and where it stands in its round. */
    private static final class Fault {
        int kind;
        int place;
        int ownLoad;
        int weight;
        int minutes;
        int ballUp;
        int ballDown;
        int at;
        int atDown;

        Fault() {
            ballUp = 1;
            ballDown = 1;
            atDown = 1;
        }

        void copyFrom(Fault other) {
            kind = other.kind;
            place = other.place;
            ownLoad = other.ownLoad;
            weight = other.weight;
            minutes = other.minutes;
            ballUp = other.ballUp;
            ballDown = other.ballDown;
            at = other.at;
            atDown = other.atDown;
        }

        /** False if a number is out of its range. */
        boolean become(Tape tape) {
            kind = tape.kind;
            place = tape.numbers[0];
            ownLoad = tape.numbers[1];
            weight = tape.numbers[2];
            minutes = tape.numbers[3];
            ballUp = kind == BALL ? tape.numbers[4] : 1;
            ballDown = kind == BALL ? tape.numbers[5] : 1;
            at = 0;
            atDown = 1;
            return weight >= 1 && minutes >= 1
                && ballUp >= 1 && ballUp <= 20 && ballDown >= 1 && ballDown <= 20;
        }

        int limitAfter(int ridden) {
            int less = kind == CRACKED ? ridden / CRACK_TURNS : 0;
            return less < ownLoad ? ownLoad - less : 0;
        }

        boolean goesBack() {
            return kind != BALL && kind != LINK && kind != TOOTH && kind != LOOSE;
        }

        boolean goesAheadOf(Fault other) {
            return minutes * other.weight < other.minutes * weight;
        }

        void scaleTo(int down) {
            if (atDown > 0) {
                at = at * down / atDown;
            }
            atDown = down;
        }

        /** How many parts it goes till it is one short of its clicking part. */
        int partsToClick() {
            return wrap(place * atDown - at - 1, STEPS * atDown);
        }

        void move(int parts) {
            at = wrap(at + parts, STEPS * atDown);
        }
    }

    /** All that an image keeps: the bicycle, where its faults stand, turns, settings and the ride. */
    private static final class Bike {
        int front;
        int links;
        final int[] cogs;
        int cogCount;
        final Fault[] faults;
        int faultCount;
        final int[] settings;
        int ridden;
        int oiledAfter;
        final int[] stageActs;
        final int[] stageGears;
        final int[] stageTurns;
        int stageCount;

        Bike() {
            front = 44;
            links = 108;
            cogs = new int[MOST_COGS];
            faults = new Fault[MOST_FAULTS];
            for (int i = 0; i < MOST_FAULTS; i++) {
                faults[i] = new Fault();
            }
            settings = new int[SETTINGS];
            settings[OILED] = 30;
            oiledAfter = NONE;
            stageActs = new int[MOST_STAGES];
            stageGears = new int[MOST_STAGES];
            stageTurns = new int[MOST_STAGES];
        }

        void copyFrom(Bike other) {
            front = other.front;
            links = other.links;
            System.arraycopy(other.cogs, 0, cogs, 0, MOST_COGS);
            cogCount = other.cogCount;
            for (int i = 0; i < MOST_FAULTS; i++) {
                faults[i].copyFrom(other.faults[i]);
            }
            faultCount = other.faultCount;
            System.arraycopy(other.settings, 0, settings, 0, SETTINGS);
            ridden = other.ridden;
            oiledAfter = other.oiledAfter;
            System.arraycopy(other.stageActs, 0, stageActs, 0, MOST_STAGES);
            System.arraycopy(other.stageGears, 0, stageGears, 0, MOST_STAGES);
            System.arraycopy(other.stageTurns, 0, stageTurns, 0, MOST_STAGES);
            stageCount = other.stageCount;
        }

        /** False if the tape's last statement is not as it must be. */
        boolean takeStatement(Tape tape) {
            int value = tape.numbers[0];
            switch (tape.letter) {
                case 'f':
                    front = value;
                    return value >= 20 && value <= 60;
                case 'k':
                    links = value;
                    return value >= 60 && value <= 140;
                case 'r':
                    return addCog(value);
                default:
                    return addFault(tape);
            }
        }

        private boolean addCog(int teeth) {
            if (cogCount >= MOST_COGS || teeth < 10 || teeth > 40) {
                return false;
            }
            cogs[cogCount] = teeth;
            cogCount++;
            return true;
        }

        private boolean addFault(Tape tape) {
            if (faultCount >= MOST_FAULTS || !faults[faultCount].become(tape)) {
                return false;
            }
            faultCount++;
            return true;
        }

        void addStage(int act, int gear, int turns) {
            if (stageCount < MOST_STAGES) {
                stageActs[stageCount] = act;
                stageGears[stageCount] = gear;
                stageTurns[stageCount] = turns;
                stageCount++;
            }
        }

        int turnsOfRide() {
            int turns = 0;
            for (int i = 0; i < stageCount; i++) {
                turns += stageTurns[i];
            }
            return turns;
        }

        int upOf(Fault fault) {
            switch (fault.kind) {
                case BALL: return fault.ballUp;
                case LINK:
                case TOOTH: return front;
                default: return 1;
            }
        }

        int downOf(Fault fault, int gear) {
            switch (fault.kind) {
                case BALL: return fault.ballDown;
                case LINK: return links;
                case TOOTH: return gear >= 0 && gear < cogCount ? cogs[gear] : 1;
                default: return 1;
            }
        }

        int loadIn(int act, int step) {
            boolean leftPush = step >= 15 && step <= 34;
            boolean push = leftPush || step >= 65 && step <= 84;
            int hill = settings[HILL];
            switch (act) {
                case SIT: return push ? 6 + hill : 2;
                case STAND: return push ? 8 + hill : 1;
                case NO_HANDS: return push ? 5 + hill : 1;
                case LEFT: return leftPush ? 6 + hill : 2;
                default: return 0;
            }
        }

        boolean wasOiled() {
            return oiledAfter >= 0;
        }

        boolean isSilent(Fault fault, int riddenThen) {
            if (fault.kind == DRY) {
                return oiledAfter >= 0 && riddenThen - oiledAfter < settings[OILED];
            }
            return fault.kind == STRUCK && settings[SHOE] != 0;
        }

        int weightOf(int bits) {
            int sum = 0;
            for (int i = 0; i < faultCount; i++) {
                sum += (bits >> i & 1) * faults[i].weight;
            }
            return sum;
        }
    }

    /** A fault that is ridden in mind: a copy, so that the bicycle's own stays where it stands. */
    private static final class Rider {
        final Bike bike;
        final Fault fault;
        int pace;
        int riddenBefore;
        int stepsBefore;
        int clicks;
        int wantedClick;
        int foundStep;

        Rider(Bike bike) {
            this.bike = bike;
            fault = new Fault();
        }

        void begin(Fault ridden, int wanted) {
            fault.copyFrom(ridden);
            pace = bike.upOf(ridden);
            riddenBefore = bike.ridden;
            stepsBefore = 0;
            clicks = 0;
            wantedClick = wanted;
            foundStep = NONE;
        }

        int passRide(Fault ridden, int wanted) {
            begin(ridden, wanted);
            for (int i = 0; i < bike.stageCount; i++) {
                passStage(bike.stageActs[i], bike.stageGears[i], bike.stageTurns[i]);
            }
            return clicks;
        }

        void passStage(int act, int gear, int turns) {
            shiftTo(gear);
            if (fault.kind == LOOSE) {
                listen(act, turns, 25, 50, 1);
            } else if (act < BACK) {
                listen(act, turns, fault.partsToClick(), STEPS * fault.atDown, pace);
            }
            fault.move(partsInStep(act) * STEPS * turns);
            riddenBefore += turns;
            stepsBefore += turns * STEPS;
        }

        void shiftTo(int gear) {
            fault.scaleTo(bike.downOf(fault, gear));
        }

        boolean comesByIn(int step) {
            return wrap(fault.partsToClick() - step * pace, STEPS * fault.atDown) < pace;
        }

        private int partsInStep(int act) {
            if (act < BACK) {
                return pace;
            }
            return act == BACK && fault.goesBack() ? -pace : 0;
        }

        /**
         * It may click in each step in which it goes over the part first, or one a gap behind the
         * last. A step has some parts.
         */
        private void listen(int act, int turns, int first, int gap, int parts) {
            if (gap < 1 || parts < 1) {
                return;
            }
            int end = turns * STEPS * parts;
            for (int part = first; part < end; part += gap) {
                int step = part / parts;
                int ridden = riddenBefore + step / STEPS;
                boolean silent = bike.isSilent(fault, ridden);
                if (!silent && bike.loadIn(act, step % STEPS) >= fault.limitAfter(ridden)) {
                    if (clicks == wantedClick) {
                        foundStep = stepsBefore + step;
                    }
                    clicks++;
                }
            }
        }
    }
}
