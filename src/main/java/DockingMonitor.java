/**
 * A monitor of a docking approach: a ship moves towards a target along a corridor and is judged
 * in each second. All rows are made by the constructor, so that no call makes an object.
 */
public final class DockingMonitor {
    public static final int BAD_INDEX = -1;
    public static final int BAD_VALUE = -2;
    public static final int NOT_POSSIBLE = -3;
    public static final int FULL = -4;
    public static final int NONE = -5;

    private static final int NO_ERROR = 0;

    private static final int FREE = 0;
    private static final int APPROACHING = 1;
    private static final int HOLDING = 2;
    private static final int RETREATING = 3;
    private static final int DOCKED = 4;
    private static final int CRASHED = 5;

    private static final int SLOPE = 0;
    private static final int MARGIN = 1;
    private static final int ZONE_RADIUS = 2;
    private static final int PLUME_DISTANCE = 3;
    private static final int GREATEST_ACCELERATION = 4;
    private static final int PLUME_ACCELERATION = 5;
    private static final int DRIFT_SECONDS = 6;
    private static final int DOCKING_SPEED = 7;
    private static final int SETTINGS = 8;
    private static final int[] SETTING_LEAST = {10, 0, 100, 0, 1, 0, 1, 10};
    private static final int[] SETTING_GREATEST = {1000, 500, 5000, 10000, 500, 500, 60, 500};
    private static final int[] SETTING_AT_FIRST = {200, 50, 500, 1000, 50, 10, 30, 50};

    private static final int MOST_POINTS = 6;
    private static final int MOST_STOPS = 4;
    private static final int MOST_STATES = 5;
    private static final int SLOTS = 2;
    private static final int MOST_BYTES = 80;
    private static final int MOST_DIGITS = 3;

    private static final int GREATEST_DISTANCE = 100000;
    private static final int GREATEST_SPEED = 5000;
    private static final int GREATEST_BIAS = 500;
    private static final int GREATEST_PASS = 200;
    private static final int GREATEST_FORECAST = 500;

    private static final int ACT_APPROACH = 'g';
    private static final int ACT_FREE = 'f';
    private static final int ACT_RETREAT = 'b';
    private static final int ACT_OPEN = 'o';
    private static final int ACT_PASS = 't';

    private final State present;
    private final State forecast;
    private final History history;
    private final State[] slots;
    private final boolean[] slotFilled;
    private final ActText text;

    /** Creates a monitor with everything as at first. */
    public DockingMonitor() {
        present = new State();
        forecast = new State();
        history = new History();
        slots = new State[SLOTS];
        for (int i = 0; i < SLOTS; i++) {
            slots[i] = new State();
        }
        slotFilled = new boolean[SLOTS];
        text = new ActText();
    }

    // ---- ship, settings, profile, stops, sensors

    /** Places the ship, which is free then. @return its judgement; BAD_VALUE */
    public int place(int x, int y, int vx, int vy) {
        if (x < 1 || x > GREATEST_DISTANCE || isBeyond(y, GREATEST_DISTANCE)
                || isBeyond(vx, GREATEST_SPEED) || isBeyond(vy, GREATEST_SPEED)) {
            return BAD_VALUE;
        }
        history.keep(present);
        present.putShip(x / 100.0f, y / 100.0f, vx / 1000.0f, vy / 1000.0f);
        return present.judge();
    }

    /** Sets a setting. @return the value before; BAD_INDEX; BAD_VALUE */
    public int set(int setting, int value) {
        if (setting < 0 || setting >= SETTINGS) {
            return BAD_INDEX;
        }
        if (value < SETTING_LEAST[setting] || value > SETTING_GREATEST[setting]) {
            return BAD_VALUE;
        }
        history.keep(present);
        int before = present.settings[setting];
        present.settings[setting] = value;
        return before;
    }

    /** Sets a point of the profile. @return the number of points then; BAD_VALUE; FULL */
    public int setPoint(int distance, int speed) {
        if (distance < 0 || distance > GREATEST_DISTANCE || speed < 1 || speed > GREATEST_SPEED) {
            return BAD_VALUE;
        }
        if (!present.profile.hasRoomFor(distance)) {
            return FULL;
        }
        history.keep(present);
        present.profile.put(distance, speed);
        return present.profile.count;
    }

    /** Adds a closed stop. @return its number; BAD_VALUE; FULL */
    public int addStop(int distance) {
        if (distance < 1 || distance > GREATEST_DISTANCE) {
            return BAD_VALUE;
        }
        if (present.stops.count >= MOST_STOPS) {
            return FULL;
        }
        history.keep(present);
        return present.stops.addClosed(distance);
    }

    /** Sets the bias of a sensor. @return 1 if it is in use, 0 if not; BAD_VALUE */
    public int setBias(boolean near, int bias) {
        if (isBeyond(bias, GREATEST_BIAS)) {
            return BAD_VALUE;
        }
        history.keep(present);
        Sensors sensors = present.sensors;
        if (near) {
            sensors.nearBias = bias;
        } else {
            sensors.farBias = bias;
        }
        return sensors.nearInUse == near ? 1 : 0;
    }

    // ---- acts

    /** Lets the ship approach. @return its judgement; NOT_POSSIBLE */
    public int approach() {
        return actRecorded(ACT_APPROACH, 0);
    }

    /** Lets the ship be free. @return its judgement; NOT_POSSIBLE */
    public int release() {
        return actRecorded(ACT_FREE, 0);
    }

    /** Lets the ship retreat. @return its judgement; NOT_POSSIBLE */
    public int retreat() {
        return actRecorded(ACT_RETREAT, 0);
    }

    /** Opens a stop. @return the number of closed stops then; BAD_INDEX; NOT_POSSIBLE */
    public int open(int stop) {
        return actRecorded(ACT_OPEN, stop);
    }

    /** Lets seconds pass. @return the mode then; BAD_VALUE */
    public int pass(int seconds) {
        return actRecorded(ACT_PASS, seconds);
    }

    // ---- the text

    /** Appends a byte to the text. @return its length then; BAD_VALUE; FULL */
    public int append(int b) {
        if (b < 32 || b > 126) {
            return BAD_VALUE;
        }
        if (text.length >= MOST_BYTES) {
            return FULL;
        }
        text.bytes[text.length] = (byte) b;
        text.length++;
        return text.length;
    }

    /** Empties the text. @return the length that it had */
    public int clearText() {
        int before = text.length;
        text.length = 0;
        return before;
    }

    /** Tells where the text leaves its form. @return the fault position; NONE */
    public int faultPosition() {
        return text.fault();
    }

    /** Carries out the acts of the text. @return the number of acts without an error; NOT_POSSIBLE */
    public int run() {
        if (text.fault() != NONE) {
            return NOT_POSSIBLE;
        }
        history.keep(present);
        int done = 0;
        int at = 0;
        // an act has two bytes at least, so that this bound is never met
        while (done < MOST_BYTES && at < text.length) {
            int act = text.byteAt(at);
            int number = text.numberAt(at + 1);
            if (present.errorOf(act, number) != NO_ERROR) {
                return done;
            }
            present.carryOut(act, number);
            done++;
            at = text.behindAct(at);
        }
        return done;
    }

    // ---- history and slots

    /** Makes the latest kept state the present one. @return the number of states left; NOT_POSSIBLE */
    public int undo() {
        if (history.count < 1) {
            return NOT_POSSIBLE;
        }
        history.takeLatest(present);
        return history.count;
    }

    /** Keeps a copy of the present state in a slot. @return the mode; BAD_INDEX */
    public int save(int slot) {
        if (slot < 0 || slot >= SLOTS) {
            return BAD_INDEX;
        }
        slots[slot].copyFrom(present);
        slotFilled[slot] = true;
        return present.mode;
    }

    /** Makes a copy of a slot's state the present one. @return the mode then; BAD_INDEX; NOT_POSSIBLE */
    public int restore(int slot) {
        if (slot < 0 || slot >= SLOTS) {
            return BAD_INDEX;
        }
        if (!slotFilled[slot]) {
            return NOT_POSSIBLE;
        }
        history.keep(present);
        present.copyFrom(slots[slot]);
        return present.mode;
    }

    // ---- looking

    /** Returns the bits of a float of the ship. @return the bits */
    public int bits(int which) {
        return bitsOf(numberOfShip(which));
    }

    /** Returns a number of the ship in thousandths, cut. @return the number */
    public int thousandths(int which) {
        return (int) (numberOfShip(which) * 1000.0f);
    }

    /** Returns the bits of the limit at a distance. @return the bits; BAD_VALUE */
    public int limit(int distance) {
        if (distance < 0 || distance > GREATEST_DISTANCE) {
            return BAD_VALUE;
        }
        return bitsOf(present.profile.limitAt(distance / 100.0f));
    }

    /** Returns the judgement of the ship. @return the judgement, 0 to 7 */
    public int judgement() {
        return present.judge();
    }

    /** Returns a property of a stop. @return the property; BAD_INDEX; BAD_VALUE */
    public int stop(int stop, int property) {
        Stops stops = present.stops;
        if (!stops.has(stop)) {
            return BAD_INDEX;
        }
        switch (property) {
            case 0:
                return stops.distances[stop];
            case 1:
                return stops.opened[stop] ? 1 : 0;
            case 2:
                return present.heldStop == stop ? 1 : 0;
            default:
                return BAD_VALUE;
        }
    }

    /** Returns a property of a point of the profile. @return the property; BAD_INDEX; BAD_VALUE */
    public int point(int point, int property) {
        Profile profile = present.profile;
        if (point < 0 || point >= profile.count) {
            return BAD_INDEX;
        }
        switch (property) {
            case 0:
                return profile.distances[point];
            case 1:
                return profile.speeds[point];
            default:
                return BAD_VALUE;
        }
    }

    /** Returns a number of the monitor. @return the number; BAD_VALUE; NONE */
    public int total(int property) {
        switch (property) {
            case 0:
                return present.mode;
            case 1:
                return present.seconds;
            case 2:
                return present.strikes;
            case 3:
                return present.sensors.agreements;
            case 4:
                return present.sensors.nearInUse ? 1 : 0;
            case 5:
                return present.stops.nextBelow(present.x);
            case 6:
                return present.profile.count;
            case 7:
                return present.stops.count;
            case 8:
                return present.stops.countClosed();
            case 9:
                return history.count;
            case 10:
                return text.length;
            case 11:
                return present.judgedRetreats;
            case 12:
                return present.sensors.changes;
            default:
                return settingAt(property - 13);
        }
    }

    // ---- what could be, which changes nothing

    /** Tells the mode after some seconds. @return the mode; BAD_VALUE */
    public int modeIn(int seconds) {
        if (seconds < 0 || seconds > GREATEST_FORECAST) {
            return BAD_VALUE;
        }
        forecast.copyFrom(present);
        for (int i = 0; i < seconds; i++) {
            forecast.passSecond();
        }
        return forecast.mode;
    }

    /** Tells when the ship would first have a mode. @return the seconds; BAD_VALUE; NONE */
    public int secondsTo(int mode) {
        if (mode < FREE || mode > CRASHED) {
            return BAD_VALUE;
        }
        forecast.copyFrom(present);
        for (int second = 0; second < GREATEST_FORECAST; second++) {
            if (forecast.mode == mode) {
                return second;
            }
            forecast.passSecond();
        }
        return forecast.mode == mode ? GREATEST_FORECAST : NONE;
    }

    /** Tells the square of the least distance of a drift. @return its bits; BAD_VALUE */
    public int closest(int seconds) {
        if (seconds < 0 || seconds > GREATEST_FORECAST) {
            return BAD_VALUE;
        }
        return bitsOf(present.leastSquare(seconds));
    }

    /** Tells the greatest safe speed towards the target. @return thousandths of metres a second; NONE */
    public int safeSpeed() {
        // every speed is tried: a fast drift can leap over the zone that a slower one ends in
        for (int n = GREATEST_SPEED; n >= 0; n--) {
            float speed = 0.0f - n / 1000.0f;
            if (!present.isTooFast(speed) && !present.hasUnsafeDrift(speed)) {
                return n;
            }
        }
        return NONE;
    }

    private int actRecorded(int act, int number) {
        int error = present.errorOf(act, number);
        if (error != NO_ERROR) {
            return error;
        }
        history.keep(present);
        return present.carryOut(act, number);
    }

    private int settingAt(int setting) {
        return setting < 0 || setting >= SETTINGS ? BAD_VALUE : present.settings[setting];
    }

    private float numberOfShip(int which) {
        Sensors sensors = present.sensors;
        switch (which) {
            case 1:
                return present.y;
            case 2:
                return present.vx;
            case 3:
                return present.vy;
            case 4:
                return sensors.measured(present.x);
            case 5:
                return present.profile.limitAt(sensors.measured(present.x));
            case 6:
                return sensors.farMeasured(present.x);
            case 7:
                return sensors.nearMeasured(present.x);
            default:
                return present.x;
        }
    }

    private static boolean isBeyond(int value, int greatestSize) {
        return value < -greatestSize || value > greatestSize;
    }

    private static float size(float value) {
        return value < 0.0f ? -value : value;
    }

    /**
     * The IEEE 754 bits, reckoned, as LANGUAGE.md leaves Float out. Scaling by 2.0f is exact. A
     * negative zero would answer 0, but none arises: a sum is one only if both its parts are, and
     * no part of the state begins as one.
     */
    private static int bitsOf(float value) {
        float scaled = size(value);
        int exponent = 127;
        while (scaled >= 2.0f && exponent < 254) {
            scaled = scaled / 2.0f;
            exponent++;
        }
        // exponent 1 stays for the subnormal numbers, whose leading bit is not hidden
        while (scaled < 1.0f && exponent > 1) {
            scaled = scaled * 2.0f;
            exponent--;
        }
        int unsigned = ((exponent - 1) << 23) + (int) (scaled * 8388608.0f);
        return value < 0.0f ? unsigned | 0x80000000 : unsigned;
    }

    /** All that undo and the slots bring back. */
    private static final class State {
        float x;
        float y;
        float vx;
        float vy;
        int mode;
        /** NONE in every mode but holding: a ship that left its hold holds no stop. */
        int heldStop;
        float holdDistance;
        int strikes;
        int seconds;
        int judgedRetreats;
        final int[] settings;
        final Profile profile;
        final Stops stops;
        final Sensors sensors;

        State() {
            x = 100.0f;
            heldStop = NONE;
            settings = new int[SETTINGS];
            System.arraycopy(SETTING_AT_FIRST, 0, settings, 0, SETTINGS);
            profile = new Profile();
            stops = new Stops();
            sensors = new Sensors();
        }

        void copyFrom(State other) {
            x = other.x;
            y = other.y;
            vx = other.vx;
            vy = other.vy;
            mode = other.mode;
            heldStop = other.heldStop;
            holdDistance = other.holdDistance;
            strikes = other.strikes;
            seconds = other.seconds;
            judgedRetreats = other.judgedRetreats;
            System.arraycopy(other.settings, 0, settings, 0, SETTINGS);
            profile.copyFrom(other.profile);
            stops.copyFrom(other.stops);
            sensors.copyFrom(other.sensors);
        }

        void putShip(float newX, float newY, float newVx, float newVy) {
            x = newX;
            y = newY;
            vx = newVx;
            vy = newVy;
            enter(FREE);
            strikes = 0;
            sensors.startFar();
        }

        private void enter(int newMode) {
            mode = newMode;
            heldStop = NONE;
        }

        private void startApproach() {
            enter(APPROACHING);
            strikes = 0;
        }

        private void hold(int stop, float distance) {
            mode = HOLDING;
            heldStop = stop;
            holdDistance = distance;
        }

        private boolean hasArrived() {
            return mode == DOCKED || mode == CRASHED;
        }

        /** The error that an act would report now, so that a call can be recorded ahead of its act. */
        int errorOf(int act, int number) {
            switch (act) {
                case ACT_APPROACH:
                    return hasArrived() || mode == APPROACHING ? NOT_POSSIBLE : NO_ERROR;
                case ACT_FREE:
                    return hasArrived() || mode == FREE ? NOT_POSSIBLE : NO_ERROR;
                case ACT_RETREAT:
                    return hasArrived() || mode == RETREATING ? NOT_POSSIBLE : NO_ERROR;
                case ACT_OPEN:
                    return stops.errorOfOpening(number);
                default:
                    return number < 1 || number > GREATEST_PASS ? BAD_VALUE : NO_ERROR;
            }
        }

        /** Carries out an act for which errorOf() told no error. */
        int carryOut(int act, int number) {
            switch (act) {
                case ACT_APPROACH:
                    startApproach();
                    return judge();
                case ACT_FREE:
                    enter(FREE);
                    return judge();
                case ACT_RETREAT:
                    enter(RETREATING);
                    return judge();
                case ACT_OPEN:
                    stops.markOpen(number);
                    if (heldStop == number) {
                        startApproach();
                    }
                    return stops.countClosed();
                default:
                    for (int i = 0; i < number; i++) {
                        passSecond();
                    }
                    return mode;
            }
        }

        void passSecond() {
            seconds++;
            if (hasArrived()) {
                return;
            }
            // both are reckoned ahead of the move, from the same place and speeds
            float ax = mode == FREE ? 0.0f : accelerationAlong(wantedSpeed());
            float ay = mode == FREE ? 0.0f : accelerationAcross();
            vx = vx + ax;
            vy = vy + ay;
            x = x + vx;
            y = y + vy;
            if (x <= 0.0f) {
                arrive();
                return;
            }
            sensors.compare(x);
            if (mode == APPROACHING) {
                holdAtStopReached();
            }
            if (mode == APPROACHING) {
                countStrikes(judge());
            } else if (mode == RETREATING && x > 50.0f && judge() == 0) {
                hold(NONE, x);
            }
        }

        private float accelerationAlong(float wanted) {
            float ax = heldToGreatest(wanted - vx);
            float plume = settings[PLUME_ACCELERATION] / 1000.0f;
            return ax > plume && x < settings[PLUME_DISTANCE] / 100.0f ? plume : ax;
        }

        private float accelerationAcross() {
            return heldToGreatest(0.0f - y * 0.05f - vy);
        }

        private float heldToGreatest(float acceleration) {
            float greatest = settings[GREATEST_ACCELERATION] / 1000.0f;
            if (acceleration < -greatest) {
                return -greatest;
            }
            return acceleration > greatest ? greatest : acceleration;
        }

        private float wantedSpeed() {
            if (mode == HOLDING) {
                return (holdDistance - x) * 0.1f;
            }
            float allowed = profile.limitAt(sensors.measured(x));
            if (mode == RETREATING) {
                return allowed;
            }
            int next = stops.nextBelow(x);
            if (!stops.has(next)) {
                return -allowed;
            }
            float slowing = 0.0f - (x - stops.metres(next)) * 0.1f;
            return slowing > -allowed ? slowing : -allowed;
        }

        private void arrive() {
            boolean gently = size(vx) <= settings[DOCKING_SPEED] / 1000.0f
                    && size(y) <= settings[MARGIN] / 100.0f;
            enter(gently ? DOCKED : CRASHED);
            x = 0.0f;
            vx = 0.0f;
            vy = 0.0f;
        }

        private void holdAtStopReached() {
            int reached = size(vx) < 0.05f ? stops.closedNear(x) : NONE;
            if (stops.has(reached)) {
                hold(reached, stops.metres(reached));
            }
        }

        private void countStrikes(int judged) {
            strikes = judged == 0 ? 0 : strikes + 1;
            if (strikes == 2) {
                enter(RETREATING);
                strikes = 0;
                judgedRetreats++;
            }
        }

        int judge() {
            int sum = 0;
            if (size(y) > x * (settings[SLOPE] / 1000.0f) + settings[MARGIN] / 100.0f) {
                sum = sum + 1;
            }
            if (isTooFast(vx)) {
                sum = sum + 2;
            }
            if (hasUnsafeDrift(vx)) {
                sum = sum + 4;
            }
            return sum;
        }

        boolean isTooFast(float speed) {
            return 0.0f - speed > profile.limitAt(x) + 0.01f;
        }

        boolean hasUnsafeDrift(float speed) {
            float slope = settings[SLOPE] / 1000.0f;
            float margin = settings[MARGIN] / 100.0f;
            float radius = settings[ZONE_RADIUS] / 100.0f;
            float zone = radius * radius;
            float driftX = x;
            float driftY = y;
            for (int second = 0; second < settings[DRIFT_SECONDS]; second++) {
                driftX = driftX + speed;
                driftY = driftY + vy;
                if (driftX * driftX + driftY * driftY < zone
                        && (size(driftY) > driftX * slope + margin || driftX < 0.0f)) {
                    return true;
                }
            }
            return false;
        }

        float leastSquare(int count) {
            float driftX = x;
            float driftY = y;
            float least = driftX * driftX + driftY * driftY;
            for (int second = 0; second < count; second++) {
                driftX = driftX + vx;
                driftY = driftY + vy;
                float square = driftX * driftX + driftY * driftY;
                least = square < least ? square : least;
            }
            return least;
        }
    }

    /** The points of the speed profile, in ascending order of distances. */
    private static final class Profile {
        int count;
        final int[] distances;
        final int[] speeds;

        Profile() {
            distances = new int[MOST_POINTS];
            speeds = new int[MOST_POINTS];
        }

        void copyFrom(Profile other) {
            count = other.count;
            System.arraycopy(other.distances, 0, distances, 0, MOST_POINTS);
            System.arraycopy(other.speeds, 0, speeds, 0, MOST_POINTS);
        }

        boolean hasRoomFor(int distance) {
            int at = indexFor(distance);
            return count < MOST_POINTS || at < count && distances[at] == distance;
        }

        /** Sets a point for which hasRoomFor() told that there is room. */
        void put(int distance, int speed) {
            int at = indexFor(distance);
            if (at >= count || distances[at] != distance) {
                for (int i = count; i > at; i--) {
                    distances[i] = distances[i - 1];
                    speeds[i] = speeds[i - 1];
                }
                count++;
            }
            distances[at] = distance;
            speeds[at] = speed;
        }

        private int indexFor(int distance) {
            int at = 0;
            while (at < count && distances[at] < distance) {
                at++;
            }
            return at;
        }

        float limitAt(float distance) {
            if (count == 0) {
                return 0.5f;
            }
            if (distance <= distances[0] / 100.0f) {
                return speeds[0] / 1000.0f;
            }
            for (int i = 1; i < count; i++) {
                float p = distances[i - 1] / 100.0f;
                float q = distances[i] / 100.0f;
                if (distance < q && p < q) {
                    float s = speeds[i - 1] / 1000.0f;
                    float t = speeds[i] / 1000.0f;
                    return s + (t - s) * ((distance - p) / (q - p));
                }
            }
            return speeds[count - 1] / 1000.0f;
        }
    }

    /** The stops on the way. */
    private static final class Stops {
        int count;
        final int[] distances;
        final boolean[] opened;

        Stops() {
            distances = new int[MOST_STOPS];
            opened = new boolean[MOST_STOPS];
        }

        void copyFrom(Stops other) {
            count = other.count;
            for (int i = 0; i < MOST_STOPS; i++) {
                distances[i] = other.distances[i];
                opened[i] = other.opened[i];
            }
        }

        boolean has(int stop) {
            return stop >= 0 && stop < count;
        }

        float metres(int stop) {
            return distances[stop] / 100.0f;
        }

        /** Adds a stop where the caller saw that there is room. */
        int addClosed(int distance) {
            int added = count;
            distances[added] = distance;
            opened[added] = false;
            count++;
            return added;
        }

        int errorOfOpening(int stop) {
            if (!has(stop)) {
                return BAD_INDEX;
            }
            return opened[stop] ? NOT_POSSIBLE : NO_ERROR;
        }

        void markOpen(int stop) {
            opened[stop] = true;
        }

        int countClosed() {
            int closed = 0;
            for (int i = 0; i < count; i++) {
                if (!opened[i]) {
                    closed++;
                }
            }
            return closed;
        }

        /** The next stop for a ship at x, or NONE. */
        int nextBelow(float x) {
            int next = NONE;
            int greatest = 0;
            for (int i = 0; i < count; i++) {
                // all distances are greater than 0, and only a greater one replaces a stop
                if (!opened[i] && distances[i] > greatest && metres(i) < x) {
                    next = i;
                    greatest = distances[i];
                }
            }
            return next;
        }

        /** The closed stop that a ship at x has reached, or NONE. */
        int closedNear(float x) {
            for (int i = 0; i < count; i++) {
                if (!opened[i] && size(x - metres(i)) < 0.2f) {
                    return i;
                }
            }
            return NONE;
        }
    }

    /** The far sensor and the near one, of which one is in use. */
    private static final class Sensors {
        int farBias;
        int nearBias;
        boolean nearInUse;
        int agreements;
        int changes;

        void copyFrom(Sensors other) {
            farBias = other.farBias;
            nearBias = other.nearBias;
            nearInUse = other.nearInUse;
            agreements = other.agreements;
            changes = other.changes;
        }

        void startFar() {
            nearInUse = false;
            agreements = 0;
        }

        float farMeasured(float x) {
            return x + farBias / 100.0f;
        }

        float nearMeasured(float x) {
            return x + nearBias / 100.0f;
        }

        float measured(float x) {
            return nearInUse ? nearMeasured(x) : farMeasured(x);
        }

        void compare(float x) {
            boolean nearSees = x <= 30.0f;
            boolean agree = !nearInUse && nearSees
                    && size(farMeasured(x) - nearMeasured(x)) < 0.5f;
            agreements = agree ? agreements + 1 : 0;
            if (agreements == 3) {
                nearInUse = true;
                agreements = 0;
                changes++;
            } else if (nearInUse && !nearSees) {
                nearInUse = false;
                changes++;
            }
        }
    }

    /** The latest states, the oldest first. */
    private static final class History {
        int count;
        private final State[] rows;

        History() {
            rows = new State[MOST_STATES];
            for (int i = 0; i < MOST_STATES; i++) {
                rows[i] = new State();
            }
        }

        void keep(State state) {
            if (count >= MOST_STATES) {
                dropOldest();
            }
            rows[count].copyFrom(state);
            count++;
        }

        private void dropOldest() {
            State oldest = rows[0];
            for (int i = 1; i < MOST_STATES; i++) {
                rows[i - 1] = rows[i];
            }
            rows[MOST_STATES - 1] = oldest;
            count = MOST_STATES - 1;
        }

        /** Moves the latest state into another one, where the caller saw that there is one. */
        void takeLatest(State into) {
            count--;
            into.copyFrom(rows[count]);
        }
    }

    /** The text that tells acts. */
    private static final class ActText {
        int length;
        final byte[] bytes;

        ActText() {
            bytes = new byte[MOST_BYTES];
        }

        /** The byte at an index, or NONE beyond the text. */
        int byteAt(int index) {
            return index >= 0 && index < length ? bytes[index] : NONE;
        }

        /** The first index at which the text leaves its form, or NONE. */
        int fault() {
            int at = 0;
            while (at < length) {
                int act = byteAt(at);
                if (!isAct(act)) {
                    return at;
                }
                int digits = 0;
                if (act == ACT_OPEN || act == ACT_PASS) {
                    digits = digitsAt(at + 1);
                    if (digits == 0 || !isInRange(act, numberAt(at + 1))) {
                        return at + 1;
                    }
                }
                int end = at + 1 + digits;
                if (byteAt(end) != ';') {
                    return end;
                }
                at = end + 1;
            }
            return NONE;
        }

        /** The index behind the act that begins at an index of a text without a fault. */
        int behindAct(int at) {
            return at + 1 + digitsAt(at + 1) + 1;
        }

        int numberAt(int at) {
            int digits = digitsAt(at);
            int number = 0;
            for (int i = 0; i < digits; i++) {
                number = number * 10 + byteAt(at + i) - '0';
            }
            return number;
        }

        /** How many digits the number has that stands at an index; a first 0 stands alone. */
        private int digitsAt(int at) {
            if (byteAt(at) == '0') {
                return 1;
            }
            int digits = 0;
            while (digits < MOST_DIGITS && isDigit(byteAt(at + digits))) {
                digits++;
            }
            return digits;
        }

        private static boolean isDigit(int b) {
            return b >= '0' && b <= '9';
        }

        private static boolean isAct(int b) {
            return b == ACT_APPROACH || b == ACT_FREE || b == ACT_RETREAT
                    || b == ACT_OPEN || b == ACT_PASS;
        }

        private static boolean isInRange(int act, int number) {
            return act == ACT_OPEN ? number < MOST_STOPS : number >= 1 && number <= GREATEST_PASS;
        }
    }
}
