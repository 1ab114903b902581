/** The boundary cases that the promises 19 to 29 name. Each sentence is quoted ahead of its checks. */
public final class LookEdges {
    private static final int BAD_INDEX = -1;
    private static final int BAD_VALUE = -2;
    private static final int NONE = -5;
    private static final int MIN = Integer.MIN_VALUE;
    private static final int MAX = Integer.MAX_VALUE;

    private static DockingMonitor placed(int x, int y, int vx, int vy) {
        DockingMonitor m = new DockingMonitor();
        m.place(x, y, vx, vy);
        return m;
    }

    /** A ship whose eight floats all differ. */
    private static DockingMonitor allDifferent() {
        DockingMonitor m = new DockingMonitor();
        m.setPoint(1000, 100);
        m.setPoint(5000, 300);
        m.setBias(false, -123);
        m.setBias(true, 77);
        m.place(2345, -678, -91, 13);
        return m;
    }

    private static float[] floatsOfIt() {
        float far = 2345 / 100.0f + -123 / 100.0f;
        float s = 100 / 1000.0f;
        float limit = s + (300 / 1000.0f - s) * ((far - 10.0f) / (50.0f - 10.0f));
        return new float[] {2345 / 100.0f, -678 / 100.0f, -91 / 1000.0f, 13 / 1000.0f, far, limit, far,
            2345 / 100.0f + 77 / 100.0f};
    }

    private static void floats() {
        Ledger.says("Returns the bits of a float of the ship (as by Float.floatToIntBits; no error is"
                + " told by it).");
        DockingMonitor m = allDifferent();
        float[] due = floatsOfIt();
        Due.is("of a negative number", m.bits(1), Float.floatToIntBits(due[1]));
        Due.is("it is less than any error", m.bits(1) < NONE ? 1 : 0, 1);
        Due.is("of zero", new DockingMonitor().bits(1), 0);
        for (int n = 1; n <= 17; n++) {
            m.place(1 << n - 1, -(1 << n - 1), 0, 0);
            Due.isFloat("of x", m.bits(0), (1 << n - 1) / 100.0f);
            Due.isFloat("of y", m.bits(1), -(1 << n - 1) / 100.0f);
        }
        Ledger.says("0 x, 1 y, 2 vx, 3 vy, 4 the measured distance m, 5 the limit at m, 6 what the far"
                + " sensor measures, 7 what the near sensor measures (whether it sees the ship or not)");
        m = allDifferent();
        for (int i = 0; i < 8; i++) {
            Due.isFloat("bits(" + i + ")", m.bits(i), due[i]);
        }
        m.place(3100, 0, 0, 0);
        Due.isFloat("near, which does not see it", m.bits(7), 31.0f + 77 / 100.0f);
        m.setBias(true, -123);
        m.place(2000, 0, 0, 0);
        m.pass(3);
        m.setBias(true, 0);
        Due.isFloat("m by the near one", m.bits(4), 20.0f);
        Due.isFloat("the limit there", m.bits(5), Float.intBitsToFloat(m.limit(2000)));
        Due.isFloat("the far one still measures", m.bits(6), 20.0f + -123 / 100.0f);
        Ledger.says("any other number is taken as 0");
        m = allDifferent();
        for (int other : new int[] {-1, 8, 9, -7, 1000, MIN, MAX, MIN + 1, 256 + 1}) {
            Due.isFloat("bits(" + other + ")", m.bits(other), due[0]);
        }
        Ledger.namesNoEdge("Returns the bits.");
    }

    private static void thousandths() {
        Ledger.says("Returns a number of the ship, cut: (int) (v * 1000.0f), where (int) drops what is"
                + " behind the point.");
        int different = 0;
        for (int v = 1; v <= 5000; v += 7) {
            DockingMonitor m = placed(v, -v, v, -v);
            Due.is("x", m.thousandths(0), (int) (v / 100.0f * 1000.0f));
            Due.is("y", m.thousandths(1), (int) (-v / 100.0f * 1000.0f));
            Due.is("vx", m.thousandths(2), (int) (v / 1000.0f * 1000.0f));
            Due.is("vy", m.thousandths(3), (int) (-v / 1000.0f * 1000.0f));
            m.pass(3);
            float x = Float.intBitsToFloat(m.bits(0));
            Due.is("x then", m.thousandths(0), (int) (x * 1000.0f));
            float y = Float.intBitsToFloat(m.bits(1));
            Due.is("y then", m.thousandths(1), (int) (y * 1000.0f));
            different += y * 1000.0f != (int) (y * 1000.0f) ? 1 : 0;
        }
        Due.is("something was dropped", different > 0 ? 1 : 0, 1);
        Ledger.says("which: as for bits()");
        DockingMonitor m = allDifferent();
        for (int i = 0; i < 8; i++) {
            Due.is("thousandths(" + i + ")", m.thousandths(i), (int) (floatsOfIt()[i] * 1000.0f));
        }
        for (int other : new int[] {-1, 8, MIN, MAX}) {
            Due.is("thousandths(" + other + ")", m.thousandths(other), 23450);
        }
        Ledger.says("Returns the number (it can be negative).");
        Due.is("y", placed(5, -1, 0, 0).thousandths(1), -10);
        Due.is("vx, not an error", placed(5, 0, -2, 0).thousandths(2), -2);
        Due.is("less than one is dropped", nearlyNothing().thousandths(1), 0);
    }

    /** A ship whose offset is less than a thousandth below 0. */
    private static DockingMonitor nearlyNothing() {
        DockingMonitor m = placed(5000, -5, 0, 0);
        m.approach();
        m.pass(200);
        float y = Float.intBitsToFloat(m.bits(1));
        Due.is("below 0", y < 0.0f && y > -0.001f ? 1 : 0, 1);
        return m;
    }

    private static void limits() {
        Ledger.says("Returns the bits of the limit at a distance (as by Float.floatToIntBits).");
        DockingMonitor m = new DockingMonitor();
        Due.is("the bits of 0.5f", m.limit(0), 0x3f000000);
        m.setPoint(5, 1);
        Due.is("the bits of 0.001f", m.limit(0), 0x3a83126f);
        Ledger.says("distance: in centimetres, 0 to 100000");
        Due.is("-1", m.limit(-1), BAD_VALUE);
        Due.is("100001", m.limit(100001), BAD_VALUE);
        m.setPoint(100000, 5000);
        Due.isFloat("0", m.limit(0), 1 / 1000.0f);
        Due.isFloat("100000", m.limit(100000), 5.0f);
        Ledger.namesNoEdge("Returns the bits");
        Ledger.says("BAD_VALUE if distance is out of range.");
        for (int bad : new int[] {-1, 100001, MIN, MAX}) {
            Due.is("with " + bad, m.limit(bad), BAD_VALUE);
            Due.is("without points, with " + bad, new DockingMonitor().limit(bad), BAD_VALUE);
        }
    }

    private static void judgements() {
        Ledger.namesNoEdge("Returns the judgement of the ship.");
        Ledger.says("Returns the judgement, 0 to 7.");
        int[][] cases = {{5000, 0, 0, 0}, {1000, 300, 0, 1}, {10000, 0, -600, 2}, {5000, 3000, -600, 3},
            {1000, 0, -500, 4}, {300, 200, 0, 5}, {1000, 0, -600, 6}, {400, 300, -600, 7}};
        for (int[] c : cases) {
            DockingMonitor m = new DockingMonitor();
            m.place(c[0], c[1], c[2], c[0] == 1000 && c[1] == 300 ? -60 : 0);
            Due.is("the judgement", m.judgement(), c[3]);
            m.approach();
            Due.is("approaching, it is the same", m.judgement(), c[3]);
        }
    }

    private static void stops() {
        Ledger.namesNoEdge("Returns a property of a stop.");
        Ledger.says("stop: a stop");
        DockingMonitor m = new DockingMonitor();
        Due.is("none", m.stop(0, 0), BAD_INDEX);
        for (int i = 0; i < 4; i++) {
            m.addStop(10000 - i);
            Due.is("the latest", m.stop(i, 0), 10000 - i);
            Due.is("one more", m.stop(i + 1, 0), BAD_INDEX);
        }
        Ledger.says("0 its distance in centimetres, 1 1 if it is open and 0 if closed, 2 1 if it is held"
                + " and 0 if not");
        m.set(4, 1);
        m.open(3);
        Due.is("closed", m.stop(0, 1), 0);
        Due.is("open", m.stop(3, 1), 1);
        Due.is("not held", m.stop(0, 2), 0);
        m.approach();
        m.pass(1);
        Due.is("held", m.stop(0, 2), 1);
        Due.is("another one", m.stop(1, 2), 0);
        m.open(0);
        Due.is("opened, it is not held", m.stop(0, 2), 0);
        Ledger.namesNoEdge("Returns the property");
        Ledger.says("BAD_INDEX if there is no such stop");
        for (int bad : new int[] {-1, 4, MIN, MAX}) {
            Due.is("with " + bad, m.stop(bad, 0), BAD_INDEX);
            Due.is("and no such property, with " + bad, m.stop(bad, 3), BAD_INDEX);
        }
        Ledger.says("BAD_VALUE if property is out of range.");
        for (int bad : new int[] {-1, 3, MIN, MAX}) {
            Due.is("with " + bad, m.stop(0, bad), BAD_VALUE);
        }
    }

    private static void points() {
        Ledger.says("Returns a point of the profile, in ascending order of distances.");
        DockingMonitor m = new DockingMonitor();
        Due.is("none", m.point(0, 0), BAD_INDEX);
        int[] distances = {300, 100000, 0, 200, 99999, 1};
        for (int i = 0; i < 6; i++) {
            m.setPoint(distances[i], 10 + i);
            Due.is("one more than there are", m.point(i + 1, 0), BAD_INDEX);
        }
        int[][] due = {{0, 12}, {1, 15}, {200, 13}, {300, 10}, {99999, 14}, {100000, 11}};
        for (int i = 0; i < 6; i++) {
            Due.is("the distance of " + i, m.point(i, 0), due[i][0]);
        }
        Ledger.says("point: 0 for the one with the least distance");
        Due.is("the least", m.point(0, 0), 0);
        Due.is("the greatest", m.point(5, 0), 100000);
        Ledger.says("property: 0 its distance in centimetres, 1 its speed in millimetres per second");
        for (int i = 0; i < 6; i++) {
            Due.is("the distance", m.point(i, 0), due[i][0]);
            Due.is("the speed", m.point(i, 1), due[i][1]);
        }
        Ledger.namesNoEdge("Returns the property");
        Ledger.says("BAD_INDEX if there is no such point");
        for (int bad : new int[] {-1, 6, MIN, MAX}) {
            Due.is("with " + bad, m.point(bad, 0), BAD_INDEX);
            Due.is("and no such property, with " + bad, m.point(bad, 2), BAD_INDEX);
        }
        Ledger.says("BAD_VALUE if property is out of range.");
        for (int bad : new int[] {-1, 2, MIN, MAX}) {
            Due.is("with " + bad, m.point(5, bad), BAD_VALUE);
        }
    }

    private static void totals() {
        Ledger.namesNoEdge("Returns a number.");
        Ledger.says("0 the mode, 1 the seconds that passed so far, 2 the strikes, 3 the agreements, 4 1 if"
                + " the near sensor is in use and 0 if the far one is, 5 the next stop (NONE without), 6"
                + " the number of points, 7 of stops, 8 of closed stops, 9 of states in the history, 10"
                + " the length of the text, 11 how often the mode became 3 by judging so far, 12 how often"
                + " the sensor in use changed in a second so far, 13 to 20 the settings 0 to 7");
        DockingMonitor m = new DockingMonitor();
        for (int i = 0; i < 8; i++) {
            m.set(i, Plain.RANGES[i][0] + i + 30);
            Due.is("a setting", m.total(13 + i), Plain.RANGES[i][0] + i + 30);
        }
        m = new DockingMonitor();
        m.setPoint(500, 50);
        Due.is("no next stop", m.total(5), NONE);
        m.addStop(900);
        m.addStop(800);
        m.addStop(700);
        m.open(0);
        m.append('g');
        m.append(';');
        m.append('t');
        m.place(2000, 0, -700, 0);
        m.approach();
        m.pass(1);
        totals(m, 1, 1, 1, 1, 0, 1, 1, 3, 2, 5, 3, 0, 0);
        m.pass(1);
        totals(m, 3, 2, 0, 2, 0, 1, 1, 3, 2, 5, 3, 1, 0);
        m.pass(1);
        totals(m, 3, 3, 0, 0, 1, 1, 1, 3, 2, 5, 3, 1, 1);
        m.place(3500, 0, -700, 0);
        totals(m, 0, 3, 0, 0, 0, 1, 1, 3, 2, 5, 3, 1, 1);
        m.retreat();
        m.approach();
        m.pass(2);
        totals(m, 3, 5, 0, 0, 0, 1, 1, 3, 2, 5, 3, 2, 1);
        Ledger.namesNoEdge("Returns the number");
        Ledger.says("BAD_VALUE if property is out of range.");
        for (int bad : new int[] {-1, 21, MIN, MAX, MIN + 5, MIN + 12, MIN + 13, MIN + 20}) {
            Due.is("with " + bad, m.total(bad), BAD_VALUE);
        }
    }

    private static void totals(DockingMonitor m, int... due) {
        for (int i = 0; i < due.length; i++) {
            Due.is("total(" + i + ")", m.total(i), due[i]);
        }
    }

    private static void modesIn() {
        Ledger.says("Tells the mode that the ship would have after some seconds, if only seconds pass.");
        for (int seconds : new int[] {1, 2, 7, 30, 100, 200}) {
            DockingMonitor m = Everything.rich();
            int told = m.modeIn(seconds);
            Due.is("in " + seconds, told, m.pass(seconds));
        }
        Ledger.says("seconds: 0 to 500");
        DockingMonitor m = placed(50000, 0, -1000, 0);
        Due.is("0", m.modeIn(0), 0);
        Due.is("499", m.modeIn(499), 0);
        Due.is("500", m.modeIn(500), 5);
        Due.is("501", m.modeIn(501), BAD_VALUE);
        Due.is("-1", m.modeIn(-1), BAD_VALUE);
        Ledger.says("Returns the mode");
        m = placed(5, 0, -50, 0);
        Due.is("free now", m.modeIn(0), 0);
        Due.is("docked in a second", m.modeIn(1), 4);
        Due.is("and in all others", m.modeIn(500), 4);
        Due.is("nothing passed", m.total(1) + m.total(0), 0);
        Ledger.says("BAD_VALUE if seconds is out of range.");
        for (int bad : new int[] {-1, 501, MIN, MAX}) {
            Due.is("with " + bad, m.modeIn(bad), BAD_VALUE);
        }
    }

    private static void secondsTo() {
        Ledger.says("Tells after how many seconds the ship would have a mode for the first time, if only"
                + " seconds pass.");
        DockingMonitor m = placed(5500, 0, 0, 0);
        m.addStop(5450);
        m.approach();
        int told = m.secondsTo(2);
        int seconds = 0;
        while (seconds < 500 && m.total(0) != 2) {
            m.pass(1);
            seconds++;
        }
        Due.is("holding", told, seconds);
        m = placed(10000, 0, -700, 0);
        m.approach();
        Due.is("retreating by judging", m.secondsTo(3), 2);
        told = m.secondsTo(2);
        for (int i = 1; i < told; i++) {
            Due.is("not yet", m.pass(1) == 2 ? 1 : 0, 0);
        }
        Due.is("then it holds", m.pass(1), 2);
        Ledger.says("mode: 0 to 5");
        m = new DockingMonitor();
        Due.is("0", m.secondsTo(0), 0);
        Due.is("5", m.secondsTo(5), NONE);
        Due.is("-1", m.secondsTo(-1), BAD_VALUE);
        Due.is("6", m.secondsTo(6), BAD_VALUE);
        Ledger.says("Returns the number of seconds, 0 if it has it now");
        m = placed(5, 0, -50, 0);
        Due.is("free", m.secondsTo(0), 0);
        Due.is("docked in a second", m.secondsTo(4), 1);
        m.pass(1);
        Due.is("docked now", m.secondsTo(4), 0);
        Ledger.says("BAD_VALUE if mode is out of range");
        for (int bad : new int[] {-1, 6, MIN, MAX}) {
            Due.is("with " + bad, m.secondsTo(bad), BAD_VALUE);
        }
        Ledger.says("NONE if it would not have it within 500 seconds.");
        Due.is("499", placed(49900, 0, -1000, 0).secondsTo(5), 499);
        Due.is("500", placed(50000, 0, -1000, 0).secondsTo(5), 500);
        Due.is("501", placed(50001, 0, -1000, 0).secondsTo(5), NONE);
        Due.is("never again", m.secondsTo(0), NONE);
    }

    private static void closest() {
        Ledger.says("as its square: the least of x * x + y * y over the seconds of the drift, its"
                + " beginning included.");
        DockingMonitor m = placed(1000, 300, 500, 0);
        Due.isFloat("away, the beginning", m.closest(500), 10.0f * 10.0f + 3.0f * 3.0f);
        m = placed(1000, 300, -500, 0);
        Due.isFloat("the last second", m.closest(19), 0.5f * 0.5f + 3.0f * 3.0f);
        Due.isFloat("by the target", m.closest(20), 3.0f * 3.0f);
        Due.isFloat("and on", m.closest(21), 3.0f * 3.0f);
        m.approach();
        Due.isFloat("no guidance", m.closest(20), 3.0f * 3.0f);
        m = placed(50, 0, -1000, 0);
        Due.isFloat("no arrival", m.closest(1), 0.5f * 0.5f);
        m = placed(1000, 300, 0, -500);
        Due.isFloat("across, not yet", m.closest(5), 10.0f * 10.0f + 0.5f * 0.5f);
        Due.isFloat("across", m.closest(6), 10.0f * 10.0f);
        Due.isFloat("and on", m.closest(500), 10.0f * 10.0f);
        Ledger.says("seconds: 0 to 500");
        m = placed(50000, 0, -1000, 0);
        Due.isFloat("0", m.closest(0), 500.0f * 500.0f);
        Due.isFloat("499", m.closest(499), 1.0f);
        Due.isFloat("500", m.closest(500), 0.0f);
        Due.is("501", m.closest(501), BAD_VALUE);
        Due.is("-1", m.closest(-1), BAD_VALUE);
        Ledger.namesNoEdge("Returns the bits (as by Float.floatToIntBits)");
        Ledger.says("BAD_VALUE if seconds is out of range.");
        for (int bad : new int[] {-1, 501, MIN, MAX}) {
            Due.is("with " + bad, m.closest(bad), BAD_VALUE);
        }
    }

    private static void safeSpeeds() {
        Ledger.says("the greatest whole number n of millimetres per second, 0 to 5000, for which the"
                + " judgement with vx as 0.0f - n / 1000.0f has neither 2 nor 4 in it.");
        DockingMonitor m = new DockingMonitor();
        m.set(6, 1);
        m.setPoint(0, 5000);
        Due.is("5000", m.safeSpeed(), 5000);
        m.setPoint(0, 4985);
        Due.is("by the limit", m.safeSpeed(), 4995);
        m.setPoint(0, 5000);
        m.place(450, 0, 0, 0);
        Due.is("by the drift", m.safeSpeed(), 4500);
        m.set(2, 5000);
        m.place(1000, 250, 0, 0);
        Due.is("0", m.safeSpeed(), 0);
        m.set(2, 100);
        m.place(300, 0, 0, 0);
        Due.is("faster ones over slower ones that are not safe", m.safeSpeed(), 5000);
        m.place(300, 0, -3500, 0);
        Due.is("such a slower one", m.judgement(), 4);
        m.place(300, 0, 5000, 0);
        Due.is("as it is otherwise, but for vx", m.safeSpeed(), 5000);
        m.place(10000, 5000, 0, 0);
        Due.is("the corridor does not matter", m.safeSpeed() + m.judgement(), 5001);
        eachSpeedIsAsItIsWritten();
        Ledger.namesNoEdge("Returns the number");
        Ledger.says("NONE if there is none.");
        m.set(2, 5000);
        m.place(1000, 251, 0, 0);
        Due.is("its drift is not safe at any speed", m.safeSpeed(), NONE);
        m = placed(1, 60, 0, 0);
        Due.is("at the target", m.safeSpeed(), NONE);
        m = new DockingMonitor();
        m.set(0, 1000);
        m.set(6, 1);
        m.place(5, 50, -500, 1);
        m.pass(1);
        Due.is("crashed outside of the corridor", m.judgement(), 5);
        Due.is("only a speed away from the target is safe", m.safeSpeed(), NONE);
    }

    /** With a limit of 0.01f less than a speed, the size of this speed decides to the last bit. */
    private static void eachSpeedIsAsItIsWritten() {
        DockingMonitor m = new DockingMonitor();
        m.set(6, 1);
        m.place(100000, 0, 0, 0);
        boolean rounded = false;
        for (int limit = 1; limit <= 480; limit++) {
            m.setPoint(0, limit);
            int due = limit + 10;
            if (0.0f - (0.0f - due / 1000.0f) > limit / 1000.0f + 0.01f) {
                due--;
                rounded = true;
            }
            Due.is("with the limit " + limit, m.safeSpeed(), due);
        }
        Due.is("some are rounded", rounded ? 1 : 0, 1);
    }

    public static void main(String[] args) {
        Ledger.openPart("## Promise 19:", "## Not promised");
        floats();
        thousandths();
        limits();
        judgements();
        stops();
        points();
        totals();
        modesIn();
        secondsTo();
        closest();
        safeSpeeds();
        Ledger.end();
    }
}
