import java.util.ArrayDeque;
import java.util.ArrayList;
import java.util.Map;
import java.util.TreeMap;
import java.util.regex.Matcher;
import java.util.regex.Pattern;

/**
 * The document once more, as literally as the Java library lets it be said. It is compared with
 * DockingMonitor over many runs of calls.
 */
final class Plain {
    static final int[][] RANGES = {{10, 1000}, {0, 500}, {100, 5000}, {0, 10000}, {1, 500}, {0, 500},
        {1, 60}, {10, 500}};
    private static final Pattern NUMBER = Pattern.compile("0|[1-9][0-9]{0,2}");

    /** The state, but for the text, the history and the slots. */
    private static final class World {
        float x = 100.0f;
        float y = 0.0f;
        float vx = 0.0f;
        float vy = 0.0f;
        int mode = 0;
        Float holdsAt = null;
        int held = -1;
        int[] settings = {200, 50, 500, 1000, 50, 10, 30, 50};
        TreeMap<Integer, Integer> points = new TreeMap<>();
        ArrayList<Integer> stops = new ArrayList<>();
        ArrayList<Boolean> open = new ArrayList<>();
        int far = 0;
        int near = 0;
        boolean nearInUse = false;
        int agreements = 0;
        int strikes = 0;
        int passed = 0;
        int retreats = 0;
        int changes = 0;

        World copy() {
            World w = new World();
            w.x = x;
            w.y = y;
            w.vx = vx;
            w.vy = vy;
            w.mode = mode;
            w.holdsAt = holdsAt;
            w.held = held;
            w.settings = settings.clone();
            w.points = new TreeMap<>(points);
            w.stops = new ArrayList<>(stops);
            w.open = new ArrayList<>(open);
            w.far = far;
            w.near = near;
            w.nearInUse = nearInUse;
            w.agreements = agreements;
            w.strikes = strikes;
            w.passed = passed;
            w.retreats = retreats;
            w.changes = changes;
            return w;
        }

        float slope() {
            return settings[0] / 1000.0f;
        }

        float margin() {
            return settings[1] / 100.0f;
        }

        float limit(float d) {
            if (points.isEmpty()) {
                return 0.5f;
            }
            if (d <= points.firstKey() / 100.0f) {
                return points.firstEntry().getValue() / 1000.0f;
            }
            if (d >= points.lastKey() / 100.0f) {
                return points.lastEntry().getValue() / 1000.0f;
            }
            Map.Entry<Integer, Integer> below = points.firstEntry();
            for (Map.Entry<Integer, Integer> e : points.entrySet()) {
                if (e.getKey() / 100.0f <= d) {
                    below = e;
                }
            }
            Map.Entry<Integer, Integer> above = points.higherEntry(below.getKey());
            float p = below.getKey() / 100.0f;
            float q = above.getKey() / 100.0f;
            float s = below.getValue() / 1000.0f;
            float t = above.getValue() / 1000.0f;
            return s + (t - s) * ((d - p) / (q - p));
        }

        float farTells() {
            return x + far / 100.0f;
        }

        float nearTells() {
            return x + near / 100.0f;
        }

        float m() {
            return nearInUse ? nearTells() : farTells();
        }

        int nextStop() {
            int best = -1;
            for (int i = stops.size() - 1; i >= 0; i--) {
                if (!open.get(i) && stops.get(i) / 100.0f < x
                        && (best < 0 || stops.get(i) >= stops.get(best))) {
                    best = i;
                }
            }
            return best;
        }

        boolean driftUnsafe(float speed) {
            float r = settings[2] / 100.0f;
            float px = x;
            float py = y;
            boolean unsafe = false;
            for (int i = 1; i <= settings[6]; i++) {
                px = px + speed;
                py = py + vy;
                boolean inZone = px * px + py * py < r * r;
                boolean outside = Math.abs(py) > px * slope() + margin();
                boolean behind = px < 0.0f;
                unsafe |= inZone && (outside || behind);
            }
            return unsafe;
        }

        int judge(float speed) {
            return (Math.abs(y) > x * slope() + margin() ? 1 : 0)
                    + (0.0f - speed > limit(x) + 0.01f ? 2 : 0)
                    + (driftUnsafe(speed) ? 4 : 0);
        }

        int judge() {
            return judge(vx);
        }

        float between(float v, float a, float b) {
            float r = v;
            if (v < a) {
                r = a;
            }
            if (v > b) {
                r = b;
            }
            return r;
        }

        void enter(int newMode) {
            mode = newMode;
            held = -1;
            holdsAt = null;
        }

        void second() {
            passed++;
            if (mode > 3) {
                return;
            }
            float ax = 0.0f;
            float ay = 0.0f;
            if (mode != 0) {
                float wanted = 0.0f;
                if (mode == 1) {
                    wanted = -limit(m());
                    if (nextStop() >= 0) {
                        float h = stops.get(nextStop()) / 100.0f;
                        float other = 0.0f - (x - h) * 0.1f;
                        if (other > wanted) {
                            wanted = other;
                        }
                    }
                } else if (mode == 2) {
                    wanted = (holdsAt - x) * 0.1f;
                } else {
                    wanted = limit(m());
                }
                float most = settings[4] / 1000.0f;
                ax = between(wanted - vx, -most, most);
                if (ax > settings[5] / 1000.0f && x < settings[3] / 100.0f) {
                    ax = settings[5] / 1000.0f;
                }
                ay = between(0.0f - y * 0.05f - vy, -most, most);
            }
            vx = vx + ax;
            vy = vy + ay;
            x = x + vx;
            y = y + vy;
            if (x <= 0.0f) {
                boolean docked = Math.abs(vx) <= settings[7] / 1000.0f && Math.abs(y) <= margin();
                enter(docked ? 4 : 5);
                x = 0.0f;
                vx = 0.0f;
                vy = 0.0f;
                return;
            }
            boolean sees = x <= 30.0f;
            if (!nearInUse && sees && Math.abs(farTells() - nearTells()) < 0.5f) {
                agreements++;
            } else {
                agreements = 0;
            }
            if (agreements == 3) {
                nearInUse = true;
                changes++;
                agreements = 0;
            }
            if (nearInUse && !sees) {
                nearInUse = false;
                changes++;
            }
            if (mode == 1) {
                for (int i = 0; i < stops.size() && mode == 1; i++) {
                    float h = stops.get(i) / 100.0f;
                    if (!open.get(i) && Math.abs(x - h) < 0.2f && Math.abs(vx) < 0.05f) {
                        enter(2);
                        held = i;
                        holdsAt = h;
                    }
                }
            }
            if (mode == 1) {
                if (judge() != 0) {
                    strikes++;
                } else {
                    strikes = 0;
                }
                if (strikes == 2) {
                    enter(3);
                    strikes = 0;
                    retreats++;
                }
            }
            if (mode == 3 && judge() == 0 && x > 50.0f) {
                enter(2);
                holdsAt = x;
            }
        }

        int act(char letter, int n) {
            switch (letter) {
                case 'g':
                    if (mode == 1 || mode > 3) {
                        return -3;
                    }
                    enter(1);
                    strikes = 0;
                    return judge();
                case 'f':
                    if (mode == 0 || mode > 3) {
                        return -3;
                    }
                    enter(0);
                    return judge();
                case 'b':
                    if (mode == 3 || mode > 3) {
                        return -3;
                    }
                    enter(3);
                    return judge();
                case 'o':
                    if (n < 0 || n >= stops.size()) {
                        return -1;
                    }
                    if (open.get(n)) {
                        return -3;
                    }
                    open.set(n, true);
                    if (held == n) {
                        enter(1);
                        strikes = 0;
                    }
                    return closed();
                default:
                    if (n < 1 || n > 200) {
                        return -2;
                    }
                    for (int i = 0; i < n; i++) {
                        second();
                    }
                    return mode;
            }
        }

        int closed() {
            int c = 0;
            for (boolean b : open) {
                c += b ? 0 : 1;
            }
            return c;
        }
    }

    private World now = new World();
    private ArrayDeque<World> history = new ArrayDeque<>();
    private final World[] slots = new World[2];
    private String text = "";

    private void record(World ahead) {
        history.addLast(ahead);
        if (history.size() > 5) {
            history.removeFirst();
        }
    }

    int place(int x, int y, int vx, int vy) {
        if (x < 1 || x > 100000 || y < -100000 || y > 100000 || vx < -5000 || vx > 5000 || vy < -5000
                || vy > 5000) {
            return -2;
        }
        record(now.copy());
        now.x = x / 100.0f;
        now.y = y / 100.0f;
        now.vx = vx / 1000.0f;
        now.vy = vy / 1000.0f;
        now.enter(0);
        now.strikes = 0;
        now.agreements = 0;
        now.nearInUse = false;
        return now.judge();
    }

    int set(int setting, int value) {
        if (setting < 0 || setting > 7) {
            return -1;
        }
        if (value < RANGES[setting][0] || value > RANGES[setting][1]) {
            return -2;
        }
        record(now.copy());
        int before = now.settings[setting];
        now.settings[setting] = value;
        return before;
    }

    int setPoint(int distance, int speed) {
        if (distance < 0 || distance > 100000 || speed < 1 || speed > 5000) {
            return -2;
        }
        if (now.points.size() == 6 && !now.points.containsKey(distance)) {
            return -4;
        }
        record(now.copy());
        now.points.put(distance, speed);
        return now.points.size();
    }

    int addStop(int distance) {
        if (distance < 1 || distance > 100000) {
            return -2;
        }
        if (now.stops.size() == 4) {
            return -4;
        }
        record(now.copy());
        now.stops.add(distance);
        now.open.add(false);
        return now.stops.size() - 1;
    }

    int setBias(boolean near, int bias) {
        if (bias < -500 || bias > 500) {
            return -2;
        }
        record(now.copy());
        if (near) {
            now.near = bias;
            return now.nearInUse ? 1 : 0;
        }
        now.far = bias;
        return now.nearInUse ? 0 : 1;
    }

    int act(char letter, int number) {
        World ahead = now.copy();
        int answer = now.act(letter, number);
        if (answer >= 0) {
            record(ahead);
        }
        return answer;
    }

    int append(int b) {
        if (b < 32 || b > 126) {
            return -2;
        }
        if (text.length() == 80) {
            return -4;
        }
        text = text + (char) b;
        return text.length();
    }

    int clearText() {
        int n = text.length();
        text = "";
        return n;
    }

    int faultPosition() {
        String rest = text;
        int gone = 0;
        while (!rest.isEmpty()) {
            char letter = rest.charAt(0);
            int used = 1;
            if ("gfbot".indexOf(letter) < 0) {
                return gone;
            }
            if (letter == 'o' || letter == 't') {
                Matcher matcher = NUMBER.matcher(rest.substring(1));
                if (!matcher.lookingAt()) {
                    return gone + 1;
                }
                int n = Integer.parseInt(matcher.group());
                if (letter == 'o' ? n > 3 : n < 1 || n > 200) {
                    return gone + 1;
                }
                used += matcher.group().length();
            }
            if (rest.length() == used || rest.charAt(used) != ';') {
                return gone + used;
            }
            gone += used + 1;
            rest = rest.substring(used + 1);
        }
        return -5;
    }

    int run() {
        if (faultPosition() != -5) {
            return -3;
        }
        record(now.copy());
        int done = 0;
        if (text.isEmpty()) {
            return 0;
        }
        for (String one : text.split(";")) {
            int n = one.length() > 1 ? Integer.parseInt(one.substring(1)) : 0;
            if (now.act(one.charAt(0), n) < 0) {
                return done;
            }
            done++;
        }
        return done;
    }

    int undo() {
        if (history.isEmpty()) {
            return -3;
        }
        now = history.removeLast();
        return history.size();
    }

    int save(int slot) {
        if (slot < 0 || slot > 1) {
            return -1;
        }
        slots[slot] = now.copy();
        return now.mode;
    }

    int restore(int slot) {
        if (slot < 0 || slot > 1) {
            return -1;
        }
        if (slots[slot] == null) {
            return -3;
        }
        record(now.copy());
        now = slots[slot].copy();
        return now.mode;
    }

    private float number(int which) {
        switch (which) {
            case 1:
                return now.y;
            case 2:
                return now.vx;
            case 3:
                return now.vy;
            case 4:
                return now.m();
            case 5:
                return now.limit(now.m());
            case 6:
                return now.farTells();
            case 7:
                return now.nearTells();
            default:
                return now.x;
        }
    }

    int bits(int which) {
        return Float.floatToIntBits(number(which));
    }

    int thousandths(int which) {
        return (int) (number(which) * 1000.0f);
    }

    int limit(int distance) {
        if (distance < 0 || distance > 100000) {
            return -2;
        }
        return Float.floatToIntBits(now.limit(distance / 100.0f));
    }

    int judgement() {
        return now.judge();
    }

    int stop(int stop, int property) {
        if (stop < 0 || stop >= now.stops.size()) {
            return -1;
        }
        if (property < 0 || property > 2) {
            return -2;
        }
        int[] all = {now.stops.get(stop), now.open.get(stop) ? 1 : 0, now.held == stop ? 1 : 0};
        return all[property];
    }

    int point(int point, int property) {
        if (point < 0 || point >= now.points.size()) {
            return -1;
        }
        if (property < 0 || property > 1) {
            return -2;
        }
        int distance = new ArrayList<>(now.points.keySet()).get(point);
        return property == 0 ? distance : now.points.get(distance);
    }

    int total(int property) {
        if (property < 0 || property > 20) {
            return -2;
        }
        if (property > 12) {
            return now.settings[property - 13];
        }
        int[] all = {now.mode, now.passed, now.strikes, now.agreements, now.nearInUse ? 1 : 0,
            now.nextStop() < 0 ? -5 : now.nextStop(), now.points.size(), now.stops.size(),
            now.closed(), history.size(), text.length(), now.retreats, now.changes};
        return all[property];
    }

    int modeIn(int seconds) {
        if (seconds < 0 || seconds > 500) {
            return -2;
        }
        World w = now.copy();
        for (int i = 0; i < seconds; i++) {
            w.second();
        }
        return w.mode;
    }

    int secondsTo(int mode) {
        if (mode < 0 || mode > 5) {
            return -2;
        }
        World w = now.copy();
        int n = 0;
        while (w.mode != mode) {
            n++;
            if (n > 500) {
                return -5;
            }
            w.second();
        }
        return n;
    }

    int closest(int seconds) {
        if (seconds < 0 || seconds > 500) {
            return -2;
        }
        float px = now.x;
        float py = now.y;
        float least = Float.POSITIVE_INFINITY;
        for (int i = 0; i <= seconds; i++) {
            least = Math.min(least, px * px + py * py);
            px = px + now.vx;
            py = py + now.vy;
        }
        return Float.floatToIntBits(least);
    }

    int safeSpeed() {
        int best = -5;
        for (int n = 0; n <= 5000; n++) {
            if ((now.judge(0.0f - n / 1000.0f) & 6) == 0) {
                best = n;
            }
        }
        return best;
    }
}
