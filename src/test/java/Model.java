import java.math.BigInteger;
import java.util.ArrayList;
import java.util.HashMap;
import java.util.LinkedList;
import java.util.List;
import java.util.Map;

/**
 * The document once more, sentence by sentence and without thrift, to be compared with the class.
 * It answers the names of exceptions as it answers numbers: Long.MIN_VALUE and the two behind it.
 */
final class Model {
    static final long INDEX = Long.MIN_VALUE;
    static final long ARGUMENT = Long.MIN_VALUE + 1;
    static final long STATE = Long.MIN_VALUE + 2;

    private static final String[][] GRAMMAR = {
        {"rail", "length 1 9999 4000"},
        {"gravity", "g1 0 200 40", "g2 0 200 60"},
        {"damping", "d1 0 400 8", "d2 0 400 8"},
        {"push", "c1 0 9 1", "c2 0 9 1", "force 1 500 60"},
        {"couple", "amount 0 200 10"},
        {"gains", "k1 0 99 4", "k2 0 99 8", "k3 0 99 4", "k4 0 99 8", "k5 0 99 0", "k6 0 99 0"},
        {"region", "angle 1 500 64", "speed 1 500 32", "count 0 3 2", "horizon 1 200 60"},
        {"limit", "limitAngle 1 2000 512", "limitSpeed 1 9999 1500"},
        {"chatter", "switches 1 20 4", "window 1 200 50", "hold 0 999 100"},
    };

    /** A whole situation; copies are made for whatever needs one. */
    private static final class State {
        long tick, mode, x, v, lock, force, switches, stops, resets, stopReason;
        long[] a = {-1, 2048, 2048};
        long[] w = {-1, 0, 0};
        List<Long> switchTicks = new ArrayList<>();

        State copy() {
            State c = new State();
            c.tick = tick;
            c.mode = mode;
            c.x = x;
            c.v = v;
            c.lock = lock;
            c.force = force;
            c.switches = switches;
            c.stops = stops;
            c.resets = resets;
            c.stopReason = stopReason;
            c.a = a.clone();
            c.w = w.clone();
            c.switchTicks = new ArrayList<>(switchTicks);
            return c;
        }
    }

    private Map<String, Long> plant = usual();
    private State now = new State();
    private final LinkedList<State> before = new LinkedList<>();
    private final State[] slots = new State[2];
    private final Map<String, long[]> trials = new HashMap<>();
    private String buffer = "";
    private long errorPosition = -1;

    Model() {
        now.force = plant.get("force");
    }

    private static Map<String, Long> usual() {
        Map<String, Long> numbers = new HashMap<>();
        for (String[] statement : GRAMMAR) {
            for (int k = 1; k < statement.length; k++) {
                String[] item = statement[k].split(" ");
                numbers.put(item[0], Long.valueOf(item[3]));
            }
        }
        return numbers;
    }

    private long n(String name) {
        return plant.get(name);
    }

    // ---- plant

    long append(int... arguments) {
        if (buffer.length() + 20 > 500) {
            return -1;
        }
        for (int argument : arguments) {
            for (byte b : BigInteger.valueOf(argument & 0xFFFFFFFFL | 1L << 32).toByteArray()) {
                buffer += (char) (b & 255);
            }
            buffer = buffer.substring(0, buffer.length() - 5) + buffer.substring(buffer.length() - 4);
        }
        return buffer.length();
    }

    long parse(int length) {
        if (length < 0 || length > buffer.length()) {
            return ARGUMENT;
        }
        String text = buffer.substring(0, length);
        buffer = "";
        Map<String, Long> described = usual();
        long[] error = firstError(text, described);
        errorPosition = error[1];
        if (error[0] == 0) {
            plant = described;
            now = new State();
            now.force = n("force");
            before.clear();
            slots[0] = null;
            slots[1] = null;
            trials.clear();
        }
        return error[0];
    }

    private static long[] firstError(String text, Map<String, Long> described) {
        List<String> tokens = new ArrayList<>();
        List<Integer> positions = new ArrayList<>();
        for (int at = 0; at < text.length();) {
            char c = text.charAt(at);
            int behind = at + 1;
            if (c != ' ' && c != '\n') {
                String alike = c >= 'a' && c <= 'z' ? "[a-z]" : c >= '0' && c <= '9' ? "[0-9]" : "";
                while (!alike.isEmpty() && behind < text.length() && text.substring(behind, behind + 1).matches(alike)) {
                    behind++;
                }
                tokens.add(text.substring(at, behind));
                positions.add(at);
            }
            at = behind;
        }
        tokens.add("end of text");
        positions.add(text.length());
        List<String> met = new ArrayList<>();
        int k = 0;
        while (!tokens.get(k).equals("end of text")) {
            String[] statement = null;
            for (String[] one : GRAMMAR) {
                statement = one[0].equals(tokens.get(k)) ? one : statement;
            }
            if (statement == null) {
                return new long[] {1, positions.get(k)};
            }
            if (met.contains(statement[0])) {
                return new long[] {2, positions.get(k)};
            }
            met.add(statement[0]);
            for (int item = 1; item < statement.length; item++) {
                k++;
                String[] range = statement[item].split(" ");
                if (!tokens.get(k).matches("[0-9]{1,4}")) {
                    return new long[] {1, positions.get(k)};
                }
                long value = Long.parseLong(tokens.get(k));
                if (value < Long.parseLong(range[1]) || value > Long.parseLong(range[2])) {
                    return new long[] {3, positions.get(k)};
                }
                described.put(range[0], value);
            }
            k++;
            if (!tokens.get(k).equals(";")) {
                return new long[] {1, positions.get(k)};
            }
            k++;
        }
        return new long[] {0, -1};
    }

    long errorPosition() {
        return errorPosition;
    }

    // ---- angles

    private static long mod(long a, long b) {
        return (a % b + b) % b;
    }

    private static long sin(long a) {
        if (a >= 2048) {
            return -sin(a - 2048);
        }
        long p = a * (2048 - a);
        return 65536 * p / (20971520 - 4 * p);
    }

    private static long cos(long a) {
        return sin(mod(a + 1024, 4096));
    }

    private static long leaning(long a) {
        return a < 2048 ? a : a - 4096;
    }

    long sine(int angle) {
        return angle < 0 || angle > 4095 ? ARGUMENT : sin(angle);
    }

    long lean(int angle) {
        return angle < 0 || angle > 4095 ? ARGUMENT : leaning(angle);
    }

    // ---- state

    private static boolean isLink(int link) {
        return link == 1 || link == 2;
    }

    long state(int what) {
        long[] parts = {now.tick, now.mode, now.x, now.v, now.lock, now.force, now.switches, now.stops, now.resets};
        return what < 0 || what >= parts.length ? ARGUMENT : parts[what];
    }

    private static long part(State s, int link, int what) {
        return what == 0 ? s.a[link] : what == 1 ? s.w[link] : leaning(s.a[link]);
    }

    long link(int link, int what) {
        return !isLink(link) ? INDEX : what < 0 || what > 2 ? ARGUMENT : part(now, link, what);
    }

    private long energyIn(State s, int link) {
        return s.w[link] * s.w[link] / 2 + n("g" + link) * cos(s.a[link]) * 10430 / 4096;
    }

    long energy(int link) {
        return isLink(link) ? energyIn(now, link) : INDEX;
    }

    long target(int link) {
        return isLink(link) ? n("g" + link) * 10430 : INDEX;
    }

    private long balancing(State s) {
        long push = (n("k1") * leaning(s.a[1]) + n("k2") * s.w[1] + n("k3") * leaning(s.a[2]) + n("k4") * s.w[2]
                + n("k5") * s.x + n("k6") * s.v) / 64;
        return push > s.force ? s.force : push < -s.force ? -s.force : push;
    }

    private long pushOf(State s) {
        if (s.mode == 0 || s.mode == 3) {
            return 0;
        }
        if (s.mode == 2) {
            return balancing(s);
        }
        long p = s.w[1] * cos(s.a[1]);
        if (p == 0) {
            return s.force;
        }
        if (energyIn(s, 1) < n("g1") * 10430) {
            return p > 0 ? -s.force : s.force;
        }
        return p > 0 ? s.force : -s.force;
    }

    long push() {
        return pushOf(now);
    }

    long stopReason() {
        return now.stopReason;
    }

    private static long countSwitches(State s, long ticks) {
        return s.switchTicks.stream().filter(t -> t > s.tick - ticks).count();
    }

    long switchesIn(int ticks) {
        return ticks < 1 || ticks > 200 ? ARGUMENT : countSwitches(now, ticks);
    }

    // ---- region

    /** Makes one step; answers 1 for a rail end, 2 for overspeed, otherwise 0. */
    private long step(State s, long u) {
        long pull = n("amount") * sin(mod(s.a[1] - s.a[2], 4096)) / 4096;
        long[] faster = new long[3];
        for (int i = 1; i <= 2; i++) {
            faster[i] = (n("g" + i) * sin(s.a[i]) - n("c" + i) * u * cos(s.a[i])) / 4096
                    - n("d" + i) * s.w[i] / 4096 - (i == 1 ? pull : -pull);
        }
        s.v += u;
        s.x += s.v / 8;
        boolean over = false;
        for (int i = 1; i <= 2; i++) {
            s.w[i] += faster[i];
            s.a[i] = mod(s.a[i] + s.w[i] / 16, 4096);
            over |= s.w[i] > n("limitSpeed") || s.w[i] < -n("limitSpeed");
        }
        if (s.x > n("length") || s.x < -n("length")) {
            s.x = s.x > 0 ? n("length") : -n("length");
            s.v = 0;
            return 1;
        }
        return over ? 2 : 0;
    }

    private static boolean leans(State s, long angle) {
        return Math.abs(leaning(s.a[1])) > angle || Math.abs(leaning(s.a[2])) > angle;
    }

    private boolean isCell(long i, long j) {
        return Math.abs(i) <= n("count") && Math.abs(j) <= n("count");
    }

    private long[] trial(long force, long i, long j) {
        return trials.computeIfAbsent(force + "," + i + "," + j, key -> {
            State s = new State();
            s.force = force;
            for (int link = 1; link <= 2; link++) {
                s.a[link] = mod(i * n("angle"), 4096);
                s.w[link] = j * n("speed");
            }
            for (long k = 1; k <= n("horizon"); k++) {
                long outcome = step(s, balancing(s));
                if (outcome != 0) {
                    return new long[] {outcome, k};
                }
                if (leans(s, n("limitAngle"))) {
                    return new long[] {3, k};
                }
            }
            return new long[] {leans(s, n("angle")) ? 4 : 0, -1};
        });
    }

    long reason(int i, int j) {
        return isCell((long) i, (long) j) ? trial(now.force, i, j)[0] : INDEX;
    }

    long failedStep(int i, int j) {
        return isCell((long) i, (long) j) ? trial(now.force, i, j)[1] : INDEX;
    }

    long regionSize() {
        return cellsWith(0);
    }

    long cellsWith(int reason) {
        long found = 0;
        for (long i = -n("count"); i <= n("count"); i++) {
            for (long j = -n("count"); j <= n("count"); j++) {
                found += trial(now.force, i, j)[0] == reason ? 1 : 0;
            }
        }
        return found;
    }

    private static long floor(long a, long b) {
        return (a - mod(a, b)) / b;
    }

    private long cell(State s, int link, int what) {
        return what == 0 ? floor(2 * leaning(s.a[link]) + n("angle"), 2 * n("angle"))
                : floor(2 * s.w[link] + n("speed"), 2 * n("speed"));
    }

    long cellOf(int link, int what) {
        return !isLink(link) ? INDEX : what < 0 || what > 1 ? ARGUMENT : cell(now, link, what);
    }

    private boolean verified(State s, int link) {
        long i = cell(s, link, 0);
        long j = cell(s, link, 1);
        return isCell(i, j) && trial(s.force, i, j)[0] == 0;
    }

    private boolean capturable(State s) {
        return verified(s, 1) && verified(s, 2);
    }

    long isCapturable() {
        return capturable(now) ? 1 : 0;
    }

    // ---- ticks

    private void tick(State s) {
        s.tick++;
        if (s.mode == 3) {
            return;
        }
        if (s.lock > 0) {
            s.lock--;
        }
        boolean switched = false;
        if (s.mode == 1 && s.lock == 0 && capturable(s)) {
            s.mode = 2;
            switched = true;
        } else if (s.mode == 2 && leans(s, n("limitAngle"))) {
            s.mode = 1;
            switched = true;
        }
        if (switched) {
            s.switches++;
            s.switchTicks.add(s.tick);
            if (countSwitches(s, n("window")) > n("switches")) {
                s.mode = 1;
                s.lock = n("hold");
            }
        }
        long outcome = step(s, pushOf(s));
        if (outcome != 0) {
            s.mode = 3;
            s.stops++;
            s.stopReason = outcome;
        }
    }

    private long ticksTo(long mode, int limit) {
        if (limit < 0 || limit > 1000) {
            return ARGUMENT;
        }
        State s = now.copy();
        for (int ticks = 0; ticks <= limit; ticks++) {
            if (s.mode == mode) {
                return ticks;
            }
            tick(s);
        }
        return -1;
    }

    long ticksToBalance(int limit) {
        return ticksTo(2, limit);
    }

    long ticksToStop(int limit) {
        return ticksTo(3, limit);
    }

    long farthest(int ticks) {
        if (ticks < 0 || ticks > 1000) {
            return ARGUMENT;
        }
        State s = now.copy();
        long most = Math.abs(s.x);
        for (int k = 0; k < ticks; k++) {
            tick(s);
            most = Math.max(most, Math.abs(s.x));
        }
        return most;
    }

    long linkAfter(int link, int what, int ticks) {
        if (!isLink(link)) {
            return INDEX;
        }
        if (what < 0 || what > 2 || ticks < 0 || ticks > 1000) {
            return ARGUMENT;
        }
        State s = now.copy();
        for (int k = 0; k < ticks; k++) {
            tick(s);
        }
        return part(s, link, what);
    }

    // ---- changes

    private void change() {
        before.addLast(now.copy());
        if (before.size() > 10) {
            before.removeFirst();
        }
    }

    long run(int ticks) {
        if (ticks < 1 || ticks > 1000) {
            return ARGUMENT;
        }
        if (now.tick + ticks > 9999) {
            return STATE;
        }
        change();
        for (int k = 0; k < ticks; k++) {
            tick(now);
        }
        return now.mode;
    }

    long setMode(int mode) {
        if (mode < 0 || mode > 2) {
            return ARGUMENT;
        }
        if (now.mode == 3) {
            return STATE;
        }
        change();
        long old = now.mode;
        now.mode = mode;
        return old;
    }

    long reset(int a1, int a2) {
        if (a1 < 0 || a1 > 4095 || a2 < 0 || a2 > 4095) {
            return ARGUMENT;
        }
        change();
        long old = now.mode;
        now.x = 0;
        now.v = 0;
        now.w = new long[] {-1, 0, 0};
        now.lock = 0;
        now.a = new long[] {-1, a1, a2};
        now.mode = 0;
        now.resets++;
        return old;
    }

    long nudge(int link, int amount) {
        if (!isLink(link)) {
            return INDEX;
        }
        if (amount < -500 || amount > 500) {
            return ARGUMENT;
        }
        if (now.mode == 3 || Math.abs(now.w[link] + amount) > 9999) {
            return STATE;
        }
        change();
        now.w[link] += amount;
        return now.w[link];
    }

    long setForce(int force) {
        if (force < 1 || force > 500) {
            return ARGUMENT;
        }
        change();
        now.force = force;
        return cellsWith(0);
    }

    // ---- undo and snapshots

    long undo() {
        if (before.isEmpty()) {
            return -1;
        }
        now = before.removeLast();
        return before.size();
    }

    long saveSnapshot(int slot) {
        if (slot != 0 && slot != 1) {
            return INDEX;
        }
        boolean earlier = slots[slot] != null;
        slots[slot] = now.copy();
        return earlier ? 1 : 0;
    }

    long restoreSnapshot(int slot) {
        if (slot != 0 && slot != 1) {
            return INDEX;
        }
        if (slots[slot] == null) {
            return STATE;
        }
        now = slots[slot].copy();
        before.clear();
        return now.tick;
    }
}
