/**
 * Two pendulums, one hanging on the other, on a cart that is pushed along a rail.
 * The document of the project says what each public method promises.
 */
public final class RailPendulum {
    public static final int NONE = -1;

    private static final int BUFFER_SIZE = 500;
    private static final int LATEST_TICK = 9999;
    private static final int FASTEST_BY_HAND = 9999;
    private static final int STRONGEST_NUDGE = 500;
    private static final int STRONGEST_FORCE = 500;
    private static final int MOST_TICKS_AT_ONCE = 1000;
    private static final int MOST_TICKS_BACK = 200;

    private static final int FULL_TURN = 4096;
    private static final int HALF_TURN = 2048;
    private static final int QUARTER_TURN = 1024;

    private static final int IDLE = 0;
    private static final int SWING_UP = 1;
    private static final int BALANCE = 2;
    private static final int STOPPED = 3;

    // What can go wrong in a step and in the trial of a cell; the first three are answers of a step.
    private static final int ALL_WELL = 0;
    private static final int RAIL_END = 1;
    private static final int OVERSPEED = 2;
    private static final int LEANS_TOO_FAR = 3;
    private static final int ENDS_OUTSIDE = 4;

    private static final int BAD_TOKEN = 1;
    private static final int SECOND_OF_A_SORT = 2;
    private static final int OUT_OF_RANGE = 3;

    // Where the numbers of a plant stand, in the order of the statements of the document.
    private static final int RAIL_LENGTH = 0;
    private static final int GRAVITY = 1;
    private static final int DAMPING = 3;
    private static final int PUSHED = 5;
    private static final int FIRST_FORCE = 7;
    private static final int COUPLE = 8;
    private static final int GAINS = 9;
    private static final int REGION_ANGLE = 15;
    private static final int REGION_SPEED = 16;
    private static final int REGION_COUNT = 17;
    private static final int REGION_HORIZON = 18;
    private static final int LIMIT_ANGLE = 19;
    private static final int LIMIT_SPEED = 20;
    private static final int CHATTER_SWITCHES = 21;
    private static final int CHATTER_WINDOW = 22;
    private static final int CHATTER_HOLD = 23;
    private static final int NUMBERS = 24;

    private static final int[] LEAST = {
        1, 0, 0, 0, 0, 0, 0, 1, 0, 0, 0, 0, 0, 0, 0, 1, 1, 0, 1, 1, 1, 1, 1, 0};
    private static final int[] MOST = {
        9999, 200, 200, 400, 400, 9, 9, 500, 200, 99, 99, 99, 99, 99, 99,
        500, 500, 3, 200, 2000, 9999, 20, 200, 999};
    private static final int[] USUAL = {
        4000, 40, 60, 8, 8, 1, 1, 60, 10, 4, 8, 4, 8, 0, 0, 64, 32, 2, 60, 512, 1500, 4, 50, 100};

    private static final int SORTS = 9;
    // The first number of each sort of statement; behind the last sort, the number of them all.
    private static final int[] FIRST_NUMBER = {0, 1, 3, 5, 8, 9, 15, 19, 21, 24};

    private final Plant plant = new Plant();
    private final PlantReader reader = new PlantReader();
    private final Situation now = new Situation();
    private final Situation ahead = new Situation();
    private final Motion trial = new Motion();
    private final History history = new History();
    private final Snapshot slotZero = new Snapshot();
    private final Snapshot slotOne = new Snapshot();
    private int errorAt = NONE;

    public RailPendulum() {
        plant.takeNumbers(USUAL);
        startAnew();
    }

    public int append(int a, int b, int c, int d, int e) {
        if (!reader.hasRoomFor(20)) {
            return NONE;
        }
        reader.addBytesOf(a);
        reader.addBytesOf(b);
        reader.addBytesOf(c);
        reader.addBytesOf(d);
        reader.addBytesOf(e);
        return reader.used;
    }

    public int parse(int length) throws IllegalArgumentException {
        requireRange(length, 0, reader.used);
        int code = reader.readText(length);
        if (code != 0) {
            errorAt = reader.start;
            return code;
        }
        errorAt = NONE;
        plant.takeNumbers(reader.numbers);
        startAnew();
        return 0;
    }

    public int errorPosition() {
        return errorAt;
    }

    public int sine(int angle) throws IllegalArgumentException {
        requireRange(angle, 0, FULL_TURN - 1);
        return sineOf(angle);
    }

    public int lean(int angle) throws IllegalArgumentException {
        requireRange(angle, 0, FULL_TURN - 1);
        return leanOf(angle);
    }

    public int state(int what) throws IllegalArgumentException {
        requireRange(what, 0, 8);
        return now.partOf(what);
    }

    public int link(int link, int what) throws IndexOutOfBoundsException, IllegalArgumentException {
        requireLink(link);
        requireRange(what, 0, 2);
        return now.motion.partOfLink(link, what);
    }

    public long energy(int link) throws IndexOutOfBoundsException {
        requireLink(link);
        return plant.energyOf(link, now.motion);
    }

    public int target(int link) throws IndexOutOfBoundsException {
        requireLink(link);
        return plant.targetOf(link);
    }

    public int push() {
        return pushIn(now);
    }

    public int stopReason() {
        return now.latestStop;
    }

    public int switchesIn(int ticks) throws IllegalArgumentException {
        requireRange(ticks, 1, MOST_TICKS_BACK);
        return now.recent.countIn(ticks);
    }

    public int reason(int i, int j) throws IndexOutOfBoundsException {
        requireCell(i, j);
        return now.region.reasonAt(i, j);
    }

    public int failedStep(int i, int j) throws IndexOutOfBoundsException {
        requireCell(i, j);
        return now.region.failedStepAt(i, j);
    }

    public int regionSize() {
        return now.region.countOf(ALL_WELL, plant.number(REGION_COUNT));
    }

    public int cellsWith(int reason) {
        return now.region.countOf(reason, plant.number(REGION_COUNT));
    }

    public int cellOf(int link, int what) throws IndexOutOfBoundsException, IllegalArgumentException {
        requireLink(link);
        requireRange(what, 0, 1);
        return plant.cellPart(now.motion, link, what);
    }

    public boolean isCapturable() {
        return canCapture(now);
    }

    public int ticksToBalance(int limit) throws IllegalArgumentException {
        requireRange(limit, 0, MOST_TICKS_AT_ONCE);
        return ticksUntil(BALANCE, limit);
    }

    public int ticksToStop(int limit) throws IllegalArgumentException {
        requireRange(limit, 0, MOST_TICKS_AT_ONCE);
        return ticksUntil(STOPPED, limit);
    }

    public int farthest(int ticks) throws IllegalArgumentException {
        requireRange(ticks, 0, MOST_TICKS_AT_ONCE);
        ahead.takeOver(now);
        int distance = Math.abs(ahead.motion.x);
        for (int done = 0; done < ticks; done++) {
            doTick(ahead);
            distance = Math.max(distance, Math.abs(ahead.motion.x));
        }
        return distance;
    }

    public int linkAfter(int link, int what, int ticks) throws IndexOutOfBoundsException, IllegalArgumentException {
        requireLink(link);
        requireRange(what, 0, 2);
        requireRange(ticks, 0, MOST_TICKS_AT_ONCE);
        ahead.takeOver(now);
        for (int done = 0; done < ticks; done++) {
            doTick(ahead);
        }
        return ahead.motion.partOfLink(link, what);
    }

    public int run(int ticks) throws IllegalArgumentException, IllegalStateException {
        requireRange(ticks, 1, MOST_TICKS_AT_ONCE);
        if (now.tick + ticks > LATEST_TICK) {
            throw new IllegalStateException("the tick would exceed its limit");
        }
        history.remember(now);
        for (int done = 0; done < ticks; done++) {
            doTick(now);
        }
        return now.mode;
    }

    public int setMode(int mode) throws IllegalArgumentException, IllegalStateException {
        requireRange(mode, IDLE, BALANCE);
        requireNotStopped();
        history.remember(now);
        int before = now.mode;
        now.mode = mode;
        return before;
    }

    public int reset(int a1, int a2) throws IllegalArgumentException {
        requireRange(a1, 0, FULL_TURN - 1);
        requireRange(a2, 0, FULL_TURN - 1);
        history.remember(now);
        int before = now.mode;
        now.motion.restAt(a1, a2);
        now.lock = 0;
        now.mode = IDLE;
        now.resets++;
        return before;
    }

    public int nudge(int link, int amount)
            throws IndexOutOfBoundsException, IllegalArgumentException, IllegalStateException {
        requireLink(link);
        requireRange(amount, -STRONGEST_NUDGE, STRONGEST_NUDGE);
        requireNotStopped();
        int speed = now.motion.speedOf(link) + amount;
        if (speed > FASTEST_BY_HAND || speed < -FASTEST_BY_HAND) {
            throw new IllegalStateException("the link would be too fast");
        }
        history.remember(now);
        now.motion.setSpeed(link, speed);
        return speed;
    }

    public int setForce(int force) throws IllegalArgumentException {
        requireRange(force, 1, STRONGEST_FORCE);
        history.remember(now);
        now.force = force;
        now.region.tryAll(plant, force, trial);
        return regionSize();
    }

    public int undo() {
        return history.giveBackTo(now) ? history.size : NONE;
    }

    public boolean saveSnapshot(int slot) throws IndexOutOfBoundsException {
        requireSlot(slot);
        Snapshot snapshot = snapshotIn(slot);
        boolean earlier = snapshot.filled;
        snapshot.kept.takeOver(now);
        snapshot.filled = true;
        return earlier;
    }

    public int restoreSnapshot(int slot) throws IndexOutOfBoundsException, IllegalStateException {
        requireSlot(slot);
        Snapshot snapshot = snapshotIn(slot);
        if (!snapshot.filled) {
            throw new IllegalStateException("the slot is empty");
        }
        now.takeOver(snapshot.kept);
        history.forget();
        return now.tick;
    }

    private void startAnew() {
        now.begin(plant.number(FIRST_FORCE));
        now.region.tryAll(plant, now.force, trial);
        history.forget();
        slotZero.filled = false;
        slotOne.filled = false;
    }

    private Snapshot snapshotIn(int slot) {
        return slot == 0 ? slotZero : slotOne;
    }

    private int ticksUntil(int mode, int limit) {
        ahead.takeOver(now);
        int ticks = 0;
        while (ticks < limit && ahead.mode != mode) {
            doTick(ahead);
            ticks++;
        }
        return ahead.mode == mode ? ticks : NONE;
    }

    private void doTick(Situation s) {
        s.tick++;
        s.recent.passTick();
        if (s.mode == STOPPED) {
            return;
        }
        if (s.lock > 0) {
            s.lock--;
        }
        switchModeIfDue(s);
        int outcome = plant.makeStep(s.motion, pushIn(s));
        if (outcome != ALL_WELL) {
            s.mode = STOPPED;
            s.stops++;
            s.latestStop = outcome;
        }
    }

    private void switchModeIfDue(Situation s) {
        if (s.mode == SWING_UP && s.lock == 0 && canCapture(s)) {
            s.mode = BALANCE;
        } else if (s.mode == BALANCE && plant.leansBeyond(s.motion, LIMIT_ANGLE)) {
            s.mode = SWING_UP;
        } else {
            return;
        }
        s.switches++;
        s.recent.markTick();
        if (s.recent.countIn(plant.number(CHATTER_WINDOW)) > plant.number(CHATTER_SWITCHES)) {
            s.mode = SWING_UP;
            s.lock = plant.number(CHATTER_HOLD);
        }
    }

    private int pushIn(Situation s) {
        if (s.mode == SWING_UP) {
            return plant.swingPush(s.motion, s.force);
        }
        return s.mode == BALANCE ? plant.balancingPush(s.motion, s.force) : 0;
    }

    private boolean canCapture(Situation s) {
        return isVerifiedFor(s, 1) && isVerifiedFor(s, 2);
    }

    private boolean isVerifiedFor(Situation s, int link) {
        int i = plant.cellPart(s.motion, link, 0);
        int j = plant.cellPart(s.motion, link, 1);
        return plant.hasCell(i, j) && s.region.reasonAt(i, j) == ALL_WELL;
    }

    private void requireCell(int i, int j) {
        if (!plant.hasCell(i, j)) {
            throw new IndexOutOfBoundsException("there is no such cell");
        }
    }

    private void requireNotStopped() {
        if (now.mode == STOPPED) {
            throw new IllegalStateException("the plant is stopped");
        }
    }

    private static void requireLink(int link) {
        if (link < 1 || link > 2) {
            throw new IndexOutOfBoundsException("there is no such link");
        }
    }

    private static void requireSlot(int slot) {
        if (slot < 0 || slot > 1) {
            throw new IndexOutOfBoundsException("there is no such slot");
        }
    }

    private static void requireRange(int value, int least, int most) {
        if (value < least || value > most) {
            throw new IllegalArgumentException("an argument is out of range");
        }
    }

    // Any whole number may stand for an angle here: a mask takes the remainder by a power of two.
    private static int sineOf(int angle) {
        int half = angle & (HALF_TURN - 1);
        long p = (long) half * (HALF_TURN - half);
        long divisor = 20971520L - 4L * p;
        if (divisor <= 0L) {
            return 0;
        }
        int size = (int) (65536L * p / divisor);
        return (angle & HALF_TURN) == 0 ? size : -size;
    }

    private static int leanOf(int angle) {
        return angle < HALF_TURN ? angle : angle - FULL_TURN;
    }

    private static int wrapped(int angle) {
        return angle & (FULL_TURN - 1);
    }

    private static boolean isBeyond(int value, int limit) {
        return value > limit || value < -limit;
    }

    private static int valueAt(int[] row, int index) {
        return index >= 0 && index < row.length ? row[index] : 0;
    }

    private static void putAt(int[] row, int index, int value) {
        if (index >= 0 && index < row.length) {
            row[index] = value;
        }
    }

    private static void copyRow(int[] from, int[] to) {
        System.arraycopy(from, 0, to, 0, Math.min(from.length, to.length));
    }

    private static String wordOf(int sort) {
        switch (sort) {
            case 0: return "rail";
            case 1: return "gravity";
            case 2: return "damping";
            case 3: return "push";
            case 4: return "couple";
            case 5: return "gains";
            case 6: return "region";
            case 7: return "limit";
            case 8: return "chatter";
            default: return "";
        }
    }

    /** The numbers of a plant, and how it moves by them. */
    private static final class Plant {
        private final int[] numbers = new int[NUMBERS];

        void takeNumbers(int[] described) {
            copyRow(described, numbers);
        }

        int number(int which) {
            return which >= 0 && which < numbers.length ? numbers[which] : 0;
        }

        long energyOf(int link, Motion m) {
            long speed = m.speedOf(link);
            long gravity = number(GRAVITY + link - 1);
            return speed * speed / 2L + gravity * sineOf(m.angleOf(link) + QUARTER_TURN) * 10430L / 4096L;
        }

        int targetOf(int link) {
            return number(GRAVITY + link - 1) * 10430;
        }

        int balancingPush(Motion m, int force) {
            int sum = number(GAINS) * leanOf(m.a1) + number(GAINS + 1) * m.w1
                    + number(GAINS + 2) * leanOf(m.a2) + number(GAINS + 3) * m.w2
                    + number(GAINS + 4) * m.x + number(GAINS + 5) * m.v;
            return Math.max(-force, Math.min(force, sum / 64));
        }

        int swingPush(Motion m, int force) {
            int p = m.w1 * sineOf(m.a1 + QUARTER_TURN);
            if (p == 0) {
                return force;
            }
            boolean lacksEnergy = energyOf(1, m) < targetOf(1);
            return lacksEnergy == (p > 0) ? -force : force;
        }

        int makeStep(Motion m, int u) {
            int s = number(COUPLE) * sineOf(m.a1 - m.a2) / 4096;
            int gain1 = speedGain(1, m, u) - s;
            int gain2 = speedGain(2, m, u) + s;
            m.v += u;
            m.w1 += gain1;
            m.w2 += gain2;
            m.x += m.v / 8;
            m.a1 = wrapped(m.a1 + m.w1 / 16);
            m.a2 = wrapped(m.a2 + m.w2 / 16);
            return outcomeOf(m);
        }

        private int speedGain(int link, Motion m, int u) {
            int angle = m.angleOf(link);
            int weight = number(GRAVITY + link - 1) * sineOf(angle);
            int pushed = number(PUSHED + link - 1) * u * sineOf(angle + QUARTER_TURN);
            return (weight - pushed) / 4096 - number(DAMPING + link - 1) * m.speedOf(link) / 4096;
        }

        private int outcomeOf(Motion m) {
            int length = number(RAIL_LENGTH);
            if (isBeyond(m.x, length)) {
                m.x = m.x > 0 ? length : -length;
                m.v = 0;
                return RAIL_END;
            }
            int fastest = number(LIMIT_SPEED);
            return isBeyond(m.w1, fastest) || isBeyond(m.w2, fastest) ? OVERSPEED : ALL_WELL;
        }

        boolean leansBeyond(Motion m, int limit) {
            int angle = number(limit);
            return isBeyond(leanOf(m.a1), angle) || isBeyond(leanOf(m.a2), angle);
        }

        boolean hasCell(int i, int j) {
            int count = number(REGION_COUNT);
            return !isBeyond(i, count) && !isBeyond(j, count);
        }

        int cellPart(Motion m, int link, int what) {
            int amount = what == 0 ? leanOf(m.angleOf(link)) : m.speedOf(link);
            int size = number(what == 0 ? REGION_ANGLE : REGION_SPEED);
            return size > 0 ? Math.floorDiv(2 * amount + size, 2 * size) : 0;
        }
    }

    /** Where the cart and the links are, and how fast. */
    private static final class Motion {
        private int x;
        private int v;
        private int a1;
        private int a2;
        private int w1;
        private int w2;

        int angleOf(int link) {
            return link == 1 ? a1 : a2;
        }

        int speedOf(int link) {
            return link == 1 ? w1 : w2;
        }

        void setSpeed(int link, int speed) {
            if (link == 1) {
                w1 = speed;
            } else {
                w2 = speed;
            }
        }

        int partOfLink(int link, int what) {
            if (what == 1) {
                return speedOf(link);
            }
            return what == 0 ? angleOf(link) : leanOf(angleOf(link));
        }

        void restAt(int angle1, int angle2) {
            x = 0;
            v = 0;
            a1 = angle1;
            a2 = angle2;
            w1 = 0;
            w2 = 0;
        }

        void copyFrom(Motion other) {
            x = other.x;
            v = other.v;
            a1 = other.a1;
            a2 = other.a2;
            w1 = other.w1;
            w2 = other.w2;
        }
    }

    /** The answers of the trials of all cells, with room for the largest count. */
    private static final class Region {
        private static final int LARGEST_COUNT = 3;
        private static final int SIDE = 2 * LARGEST_COUNT + 1;

        private final int[] reasons = new int[SIDE * SIDE];
        private final int[] failedSteps = new int[SIDE * SIDE];

        private static int placeOf(int i, int j) {
            return (i + LARGEST_COUNT) * SIDE + j + LARGEST_COUNT;
        }

        int reasonAt(int i, int j) {
            return valueAt(reasons, placeOf(i, j));
        }

        int failedStepAt(int i, int j) {
            return valueAt(failedSteps, placeOf(i, j));
        }

        int countOf(int reason, int count) {
            int found = 0;
            for (int i = -count; i <= count; i++) {
                for (int j = -count; j <= count; j++) {
                    found += reasonAt(i, j) == reason ? 1 : 0;
                }
            }
            return found;
        }

        void tryAll(Plant plant, int force, Motion m) {
            int count = plant.number(REGION_COUNT);
            for (int i = -count; i <= count; i++) {
                for (int j = -count; j <= count; j++) {
                    int angle = wrapped(i * plant.number(REGION_ANGLE));
                    m.restAt(angle, angle);
                    m.w1 = j * plant.number(REGION_SPEED);
                    m.w2 = m.w1;
                    tryCell(placeOf(i, j), plant, force, m);
                }
            }
        }

        private void tryCell(int place, Plant plant, int force, Motion m) {
            int horizon = plant.number(REGION_HORIZON);
            int reason = ALL_WELL;
            int steps = 0;
            while (steps < horizon && reason == ALL_WELL) {
                reason = plant.makeStep(m, plant.balancingPush(m, force));
                if (reason == ALL_WELL && plant.leansBeyond(m, LIMIT_ANGLE)) {
                    reason = LEANS_TOO_FAR;
                }
                steps++;
            }
            int failedStep = reason == ALL_WELL ? NONE : steps;
            if (reason == ALL_WELL && plant.leansBeyond(m, REGION_ANGLE)) {
                reason = ENDS_OUTSIDE;
            }
            putAt(reasons, place, reason);
            putAt(failedSteps, place, failedStep);
        }

        void copyFrom(Region other) {
            copyRow(other.reasons, reasons);
            copyRow(other.failedSteps, failedSteps);
        }
    }

    /** Which of the latest 256 ticks had a switch; the lowest bit of the first word is the latest tick. */
    private static final class RecentSwitches {
        private long first;
        private long second;
        private long third;
        private long fourth;

        void passTick() {
            fourth = fourth << 1 | third >>> 63;
            third = third << 1 | second >>> 63;
            second = second << 1 | first >>> 63;
            first = first << 1;
        }

        void markTick() {
            first |= 1L;
        }

        int countIn(int ticks) {
            return Long.bitCount(first & lowBits(ticks)) + Long.bitCount(second & lowBits(ticks - 64))
                    + Long.bitCount(third & lowBits(ticks - 128)) + Long.bitCount(fourth & lowBits(ticks - 192));
        }

        private static long lowBits(int howMany) {
            if (howMany <= 0) {
                return 0L;
            }
            return howMany >= 64 ? -1L : (1L << howMany) - 1L;
        }

        void clearAll() {
            first = 0L;
            second = 0L;
            third = 0L;
            fourth = 0L;
        }

        void copyFrom(RecentSwitches other) {
            first = other.first;
            second = other.second;
            third = other.third;
            fourth = other.fourth;
        }
    }

    /** Everything that changes can change. */
    private static final class Situation {
        private final Motion motion = new Motion();
        private final Region region = new Region();
        private final RecentSwitches recent = new RecentSwitches();
        private int tick;
        private int mode;
        private int lock;
        private int force;
        private int switches;
        private int stops;
        private int resets;
        private int latestStop;

        void begin(int firstForce) {
            motion.restAt(HALF_TURN, HALF_TURN);
            recent.clearAll();
            tick = 0;
            mode = IDLE;
            lock = 0;
            force = firstForce;
            switches = 0;
            stops = 0;
            resets = 0;
            latestStop = ALL_WELL;
        }

        int partOf(int what) {
            switch (what) {
                case 0: return tick;
                case 1: return mode;
                case 2: return motion.x;
                case 3: return motion.v;
                case 4: return lock;
                case 5: return force;
                case 6: return switches;
                case 7: return stops;
                default: return resets;
            }
        }

        void takeOver(Situation other) {
            motion.copyFrom(other.motion);
            region.copyFrom(other.region);
            recent.copyFrom(other.recent);
            tick = other.tick;
            mode = other.mode;
            lock = other.lock;
            force = other.force;
            switches = other.switches;
            stops = other.stops;
            resets = other.resets;
            latestStop = other.latestStop;
        }
    }

    /** A slot for a situation. */
    private static final class Snapshot {
        private final Situation kept = new Situation();
        private boolean filled;
    }

    /** The situations before the latest changes, in a ring of rows that are used again. */
    private static final class History {
        private static final int DEPTH = 10;

        private final Situation[] rows = new Situation[DEPTH];
        private int next;
        private int size;

        History() {
            for (int k = 0; k < rows.length; k++) {
                rows[k] = new Situation();
            }
        }

        void remember(Situation s) {
            Situation row = rowAt(next);
            if (row == null) {
                return;
            }
            row.takeOver(s);
            next = (next + 1) % DEPTH;
            size = Math.min(size + 1, DEPTH);
        }

        boolean giveBackTo(Situation s) {
            int latest = (next + DEPTH - 1) % DEPTH;
            Situation row = rowAt(latest);
            if (size == 0 || row == null) {
                return false;
            }
            s.takeOver(row);
            next = latest;
            size--;
            return true;
        }

        void forget() {
            size = 0;
        }

        private Situation rowAt(int index) {
            return index >= 0 && index < rows.length ? rows[index] : null;
        }
    }

    /** The input buffer, and the reading of a plant text from it, token by token. */
    private static final class PlantReader {
        private static final int END = 0;
        private static final int WORD = 1;
        private static final int NUMBER = 2;
        private static final int SEMICOLON = 3;
        private static final int INVALID = 4;
        private static final int LONGEST_WORD = 8;
        private static final int LONGEST_NUMBER = 4;

        private final int[] buffer = new int[BUFFER_SIZE];
        private final int[] numbers = new int[NUMBERS];
        private int used;
        private int end;
        private int sortsMet;
        // The latest token: where it starts, where the text goes on behind it, and what it is.
        private int start;
        private int next;
        private int kind;
        private int value;

        boolean hasRoomFor(int bytes) {
            return used + bytes <= BUFFER_SIZE;
        }

        void addBytesOf(int word) {
            for (int shift = 24; shift >= 0; shift -= 8) {
                putAt(buffer, used, word >>> shift & 255);
                used++;
            }
        }

        // As errors are met from the left, the first is the one to report; start is then its position.
        int readText(int length) {
            copyRow(USUAL, numbers);
            used = 0;
            end = length;
            next = 0;
            sortsMet = 0;
            int code = 0;
            readToken();
            // A statement has more than one byte, so this bound is never what ends the loop.
            for (int k = 0; k < BUFFER_SIZE && code == 0 && kind != END; k++) {
                code = readStatement();
                if (code == 0) {
                    readToken();
                }
            }
            return code;
        }

        private int readStatement() {
            int sort = kind == WORD ? sortOfWord() : NONE;
            if (sort == NONE) {
                return BAD_TOKEN;
            }
            if ((sortsMet >> sort & 1) != 0) {
                return SECOND_OF_A_SORT;
            }
            sortsMet |= 1 << sort;
            int code = 0;
            int behind = valueAt(FIRST_NUMBER, sort + 1);
            for (int which = valueAt(FIRST_NUMBER, sort); which < behind && code == 0; which++) {
                code = readNumber(which);
            }
            if (code != 0) {
                return code;
            }
            readToken();
            return kind == SEMICOLON ? 0 : BAD_TOKEN;
        }

        private int readNumber(int which) {
            readToken();
            if (kind != NUMBER) {
                return BAD_TOKEN;
            }
            if (value < valueAt(LEAST, which) || value > valueAt(MOST, which)) {
                return OUT_OF_RANGE;
            }
            putAt(numbers, which, value);
            return 0;
        }

        private int sortOfWord() {
            for (int sort = 0; sort < SORTS; sort++) {
                if (isWord(wordOf(sort))) {
                    return sort;
                }
            }
            return NONE;
        }

        private boolean isWord(String word) {
            if (word.length() != next - start) {
                return false;
            }
            for (int k = 0; k < word.length(); k++) {
                if (word.charAt(k) != valueAt(buffer, start + k)) {
                    return false;
                }
            }
            return true;
        }

        private void readToken() {
            start = next;
            while (start < end && isSeparator(valueAt(buffer, start))) {
                start++;
            }
            next = start;
            if (start >= end) {
                kind = END;
                return;
            }
            int first = valueAt(buffer, start);
            if (isLetter(first)) {
                readLetters();
            } else if (isDigit(first)) {
                readDigits();
            } else {
                next++;
                kind = first == ';' ? SEMICOLON : INVALID;
            }
        }

        private void readLetters() {
            while (next < end && isLetter(valueAt(buffer, next))) {
                next++;
            }
            kind = next - start <= LONGEST_WORD ? WORD : INVALID;
        }

        // A run that is too long may wrap its value around, but then nobody asks for it.
        private void readDigits() {
            value = 0;
            while (next < end && isDigit(valueAt(buffer, next))) {
                value = value * 10 + valueAt(buffer, next) - '0';
                next++;
            }
            kind = next - start <= LONGEST_NUMBER ? NUMBER : INVALID;
        }

        private static boolean isSeparator(int sign) {
            return sign == ' ' || sign == '\n';
        }

        private static boolean isLetter(int sign) {
            return sign >= 'a' && sign <= 'z';
        }

        private static boolean isDigit(int sign) {
            return sign >= '0' && sign <= '9';
        }
    }
}
