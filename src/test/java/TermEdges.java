/**
 * The boundary cases that the document's Terms name up to the sensors: numbers, the ship, settings,
 * profile, stops. Each sentence is quoted ahead of its checks.
 */
public final class TermEdges {
    private static final int BAD_VALUE = -2;
    private static final int FULL = -4;
    private static final int NONE = -5;

    private static DockingMonitor placed(int x, int y, int vx, int vy) {
        DockingMonitor m = new DockingMonitor();
        m.place(x, y, vx, vy);
        return m;
    }

    private static void numbers() {
        Ledger.namesNoEdge("There are forecasts, acts from texts, undo and slots.");
        Ledger.says("all that is reckoned from them are floats (32 bits, IEEE 754)");
        DockingMonitor m = placed(1, 7, 1, 1);
        Due.is("the bits of 0.01f", m.bits(0), 0x3c23d70a);
        Due.is("the bits of 0.001f", m.bits(2), 0x3a83126f);
        eachOperationIsRounded();
        Ledger.says("whole numbers in it are converted to floats first");
        for (int n : new int[] {1, 3, 99999, 100000}) {
            Due.isFloat("a distance", placed(n, 0, 0, 0).bits(0), (float) n / 100.0f);
        }
        Ledger.says("A distance of n centimetres is n / 100.0f (metres)");
        boolean differs = false;
        for (int n = 1; n <= 100; n++) {
            m.place(n, -n, 0, 0);
            Due.isFloat("a distance", m.bits(0), n / 100.0f);
            Due.isFloat("an offset", m.bits(1), -n / 100.0f);
            differs |= n / 100.0f != n * 0.01f;
        }
        Due.is("a product would differ", differs ? 1 : 0, 1);
        Ledger.says("a speed of n millimetres per second is n / 1000.0f, an acceleration likewise");
        differs = false;
        for (int n = 1; n <= 500; n++) {
            m.place(5000, 0, n, -n);
            Due.isFloat("a speed", m.bits(2), n / 1000.0f);
            Due.isFloat("a speed across", m.bits(3), -n / 1000.0f);
            differs |= n / 1000.0f != n * 0.001f;
        }
        Due.is("a product would differ", differs ? 1 : 0, 1);
        for (int n = 1; n < 500; n++) {
            m.set(4, n);
            m.place(5000, 0, 0, 0);
            m.approach();
            m.pass(1);
            Due.isFloat("an acceleration", m.bits(2), -(n / 1000.0f));
        }
        Ledger.says("a slope of n thousandths is n / 1000.0f");
        m = new DockingMonitor();
        m.set(1, 0);
        for (int n = 10; n < 1000; n += 45) {
            m.set(0, n);
            Due.is("inside by slope " + n, m.place(100000, 100 * n - 1, 0, 0), 0);
            Due.is("outside by slope " + n, m.place(100000, 100 * n + 1, 0, 0), 1);
        }
    }

    private static void eachOperationIsRounded() {
        Ledger.says("Each operation with them is done in floats, rounded by itself, in the order");
        DockingMonitor m = new DockingMonitor();
        m.set(4, 500);
        boolean differs = false;
        for (int i = 1; i <= 100; i++) {
            m.place(5000, 3 * i, 0, 17);
            m.retreat();
            m.pass(1);
            float y = 3 * i / 100.0f;
            float vy = 17 / 1000.0f;
            float ay = 0.0f - y * 0.05f - vy;
            Due.isFloat("vy", m.bits(3), vy + ay);
            differs |= vy + ay != (float) (vy + (0.0 - y * 0.05f - vy));
        }
        Due.is("doubles would differ", differs ? 1 : 0, 1);
        m.setPoint(1000, 5000);
        m.setPoint(4000, 1);
        differs = false;
        float s = 5000 / 1000.0f;
        float t = 1 / 1000.0f;
        for (int d = 1001; d < 4000; d++) {
            float part = d / 100.0f - 10.0f;
            Due.isFloat("the limit at " + d, m.limit(d), s + (t - s) * (part / (40.0f - 10.0f)));
            differs |= s + (t - s) * (part / 30.0f) != s + (t - s) * part / 30.0f;
        }
        Due.is("another order would differ", differs ? 1 : 0, 1);
    }

    private static void sizes() {
        Ledger.says("The size of a number is the number without its sign.");
        Due.is("an offset on the one side", placed(1000, 300, 0, -60).judgement(), 1);
        Due.is("an offset on the other side", placed(1000, -300, 0, 60).judgement(), 1);
        Due.is("docked at a negative speed", placed(5, 0, -50, 0).pass(1), 4);
        Due.is("crashed at a negative speed", placed(5, 0, -51, 0).pass(1), 5);
        Due.is("docked at a negative offset", placed(5, -50, -50, 0).pass(1), 4);
        Due.is("crashed at a negative offset", placed(5, -51, -50, 0).pass(1), 5);
    }

    private static void held() {
        Ledger.says("it becomes a if it is less than a, and b if it is greater than b");
        DockingMonitor m = new DockingMonitor();
        m.set(3, 0);
        int[] speeds = {-500, -499, -451, -450, -449, 449, 450, 451};
        for (int v : speeds) {
            // with the limit 0.5f, the wanted acceleration is around the greatest one, 0.05f
            m.place(5000, 0, -v, 0);
            m.retreat();
            float wanted = 0.5f - -v / 1000.0f;
            float ax = wanted > 0.05f ? 0.05f : wanted < -0.05f ? -0.05f : wanted;
            m.pass(1);
            Due.isFloat("retreating at " + -v, m.bits(2), -v / 1000.0f + ax);
            m.place(5000, 0, v, 0);
            m.approach();
            wanted = -0.5f - v / 1000.0f;
            ax = wanted > 0.05f ? 0.05f : wanted < -0.05f ? -0.05f : wanted;
            m.pass(1);
            Due.isFloat("approaching at " + v, m.bits(2), v / 1000.0f + ax);
        }
    }

    private static void shipAtFirst() {
        Ledger.namesNoEdge("The ship has a distance x and an offset y from the target");
        Ledger.says("at first x is 100.0f, and the others are 0.0f");
        DockingMonitor m = new DockingMonitor();
        Due.isFloat("x", m.bits(0), 100.0f);
        for (int i = 1; i < 4; i++) {
            Due.is("the bits of another", m.bits(i), 0);
        }
        Ledger.says("0 free, 1 approaching, 2 holding, 3 retreating, 4 docked, 5 crashed");
        Due.is("free", m.total(0), 0);
        m.approach();
        Due.is("approaching", m.total(0), 1);
        m.retreat();
        Due.is("retreating", m.total(0), 3);
        m.place(5100, 0, 0, 0);
        m.retreat();
        Due.is("holding", m.pass(1), 2);
        m.place(5, 0, -50, 0);
        Due.is("docked", m.pass(1), 4);
        m.place(5, 0, -500, 0);
        Due.is("crashed", m.pass(1), 5);
        Ledger.says("At first it is free.");
        Due.is("a new one", new DockingMonitor().total(0), 0);
        Due.is("it can't be let free", new DockingMonitor().release(), -3);
    }

    private static void settings() {
        String[] quotes = {"0 the slope of the corridor in thousandths (10 to 1000; 200)",
            "1 its margin in centimetres (0 to 500; 50)",
            "2 the radius of the forbidden zone in centimetres (100 to 5000; 500)",
            "3 the plume distance in centimetres (0 to 10000; 1000)",
            "4 the greatest acceleration in millimetres per second squared (1 to 500; 50)",
            "5 the plume acceleration, likewise (0 to 500; 10)",
            "6 the drift in seconds (1 to 60; 30)",
            "7 the docking speed in millimetres per second (10 to 500; 50)"};
        int[][] due = {{10, 1000, 200}, {0, 500, 50}, {100, 5000, 500}, {0, 10000, 1000}, {1, 500, 50},
            {0, 500, 10}, {1, 60, 30}, {10, 500, 50}};
        for (int s = 0; s < 8; s++) {
            Ledger.says(quotes[s]);
            DockingMonitor m = new DockingMonitor();
            Due.is("at first", m.total(13 + s), due[s][2]);
            Due.is("too small", m.set(s, due[s][0] - 1), BAD_VALUE);
            Due.is("too large", m.set(s, due[s][1] + 1), BAD_VALUE);
            Due.is("still as at first", m.set(s, due[s][0]), due[s][2]);
            Due.is("the least was taken", m.set(s, due[s][1]), due[s][0]);
            Due.is("the greatest was taken", m.total(13 + s), due[s][1]);
        }
    }

    /** The least and the greatest value of each setting, in use. */
    private static void settingsInUse() {
        Ledger.says("Settings (range; at first).");
        DockingMonitor m = new DockingMonitor();
        m.set(0, 10);
        m.set(1, 0);
        Due.is("slope 0.01, no margin", m.place(10000, 101, 0, 0), 1);
        Due.is("its edge", m.place(10000, 100, 0, 0), 0);
        m.set(1, 500);
        Due.is("the greatest margin", m.place(10000, 600, 0, 0), 0);
        Due.is("beyond it", m.place(10000, 601, 0, 0), 1);
        m.set(0, 1000);
        Due.is("slope 1.0", m.place(10000, 10500, 0, 0), 0);
        Due.is("beyond that", m.place(10000, 10501, 0, 0), 1);
        m = new DockingMonitor();
        m.set(6, 1);
        m.set(2, 5000);
        Due.is("the greatest radius", m.place(4999, 2000, 0, 0), 1);
        Due.is("within it", m.place(4000, 2000, 0, 0), 5);
        m.set(2, 100);
        Due.is("the least radius", m.place(1, 99, 0, 0), 5);
        Due.is("beyond that", m.place(1, 100, 0, 0), 1);
        m.set(6, 60);
        Due.is("a drift of 60", m.place(590, 0, -100, 0), 4);
        Due.is("which does not come to the target", m.place(610, 0, -100, 0), 0);
        m.set(3, 10000);
        m.set(5, 0);
        m.place(9999, 0, -10, 0);
        m.retreat();
        m.pass(1);
        Due.isFloat("no acceleration in the plume", m.bits(2), -10 / 1000.0f);
        m.set(4, 1);
        m.place(10000, 0, -10, 0);
        m.retreat();
        m.pass(1);
        Due.isFloat("the least acceleration", m.bits(2), -10 / 1000.0f + 1 / 1000.0f);
        m.set(7, 10);
        Due.is("the least docking speed", placedAndPassed(m, 1, -10), 4);
        Due.is("faster", placedAndPassed(m, 1, -11), 5);
        m.set(7, 500);
        Due.is("the greatest docking speed", placedAndPassed(m, 1, -500), 4);
        Due.is("faster than that", placedAndPassed(m, 1, -501), 5);
    }

    private static int placedAndPassed(DockingMonitor m, int x, int vx) {
        m.place(x, 0, vx, 0);
        return m.pass(1);
    }

    private static void profile() {
        Ledger.says("It has at most 6 points");
        DockingMonitor m = new DockingMonitor();
        Due.is("none at first", m.total(6), 0);
        for (int i = 1; i <= 6; i++) {
            Due.is("a point", m.setPoint(100 * i, i), i);
        }
        Due.is("a seventh", m.setPoint(700, 7), FULL);
        Due.is("six still", m.total(6), 6);
        Ledger.says("no two have the same distance");
        Due.is("the same distance again", m.setPoint(300, 77), 6);
        Due.is("its speed", m.point(2, 1), 77);
        for (int i = 1; i <= 6; i++) {
            Due.is("the distances", m.point(i - 1, 0), 100 * i);
        }
        DockingMonitor one = new DockingMonitor();
        one.setPoint(0, 5);
        Due.is("one alone, set again", one.setPoint(0, 6), 1);
        Due.is("then it has the later speed", one.point(0, 1), 6);
        Ledger.says("The limit at a distance d is 0.5f without points");
        m = new DockingMonitor();
        for (int d : new int[] {0, 1, 50000, 100000}) {
            Due.isFloat("at " + d, m.limit(d), 0.5f);
        }
        m.setPoint(0, 1);
        m.undo();
        Due.isFloat("again without points", m.limit(0), 0.5f);
        limitsAtTheEnds();
        limitsBetween();
    }

    private static void limitsAtTheEnds() {
        Ledger.says("it is the speed of the point with the least distance if d is at most this"
                + " distance, and that of the point with the greatest distance if d is at least this"
                + " distance");
        DockingMonitor m = new DockingMonitor();
        m.setPoint(4000, 1);
        m.setPoint(1000, 5000);
        m.setPoint(3000, 9);
        Due.isFloat("far below", m.limit(0), 5.0f);
        Due.isFloat("just below", m.limit(999), 5.0f);
        Due.isFloat("at the least", m.limit(1000), 5.0f);
        Due.is("just above it, it is less", Float.intBitsToFloat(m.limit(1001)) < 5.0f ? 1 : 0, 1);
        Due.is("just below the greatest, it is more",
                Float.intBitsToFloat(m.limit(3999)) > 1 / 1000.0f ? 1 : 0, 1);
        Due.isFloat("at the greatest", m.limit(4000), 1 / 1000.0f);
        Due.isFloat("just above", m.limit(4001), 1 / 1000.0f);
        Due.isFloat("far above", m.limit(100000), 1 / 1000.0f);
        m.setBias(false, -500);
        m.place(1, 0, 0, 0);
        Due.isFloat("below 0", m.bits(5), 5.0f);
        DockingMonitor one = new DockingMonitor();
        one.setPoint(1000, 7);
        for (int d : new int[] {0, 999, 1000, 1001, 100000}) {
            Due.isFloat("with one point, at " + d, one.limit(d), 7 / 1000.0f);
        }
        one.setPoint(99999, 5000);
        one.setPoint(99998, 1000);
        Due.isFloat("far away, above the greatest", one.limit(100000), 5.0f);
        Due.isFloat("far away, at the greatest", one.limit(99999), 5.0f);
        DockingMonitor far = new DockingMonitor();
        far.setPoint(99999, 1000);
        far.setPoint(100000, 3000);
        Due.isFloat("far away, below the least", far.limit(99998), 1.0f);
        DockingMonitor edges = new DockingMonitor();
        edges.setPoint(100000, 4000);
        edges.setPoint(0, 2000);
        Due.isFloat("at 0", edges.limit(0), 2.0f);
        Due.isFloat("at 100000", edges.limit(100000), 4.0f);
    }

    private static void limitsBetween() {
        Ledger.says("the two neighbouring points with p <= d and d < q, it is s + (t - s) * ((d - p) /"
                + " (q - p))");
        DockingMonitor m = new DockingMonitor();
        int[] speeds = {5000, 1, 4999, 3, 4998, 7};
        boolean differs = false;
        for (int i = 0; i < 6; i++) {
            m.setPoint(1000 * i, speeds[i]);
        }
        for (int i = 0; i < 5; i++) {
            float s = speeds[i] / 1000.0f;
            float t = speeds[i + 1] / 1000.0f;
            for (int d : new int[] {0, 1, 333, 500, 999}) {
                int at = 1000 * i + d;
                float p = 10.0f * i;
                float q = 10.0f * (i + 1);
                float due = s + (t - s) * ((at / 100.0f - p) / (q - p));
                Due.isFloat("at " + at, m.limit(at), due);
            }
            differs |= i < 4 && s + (t - s) != t;
        }
        Due.is("at a point, the segment below it would differ", differs ? 1 : 0, 1);
        DockingMonitor close = new DockingMonitor();
        close.setPoint(100000, 5000);
        close.setPoint(99999, 1);
        Due.isFloat("neighbours at the far end", close.limit(99999), 1 / 1000.0f);
        Due.isFloat("the last", close.limit(100000), 5.0f);
    }

    private static void stops() {
        Ledger.says("There are at most 4, numbered from 0, each with a distance in centimetres");
        DockingMonitor m = new DockingMonitor();
        Due.is("none at first", m.total(7), 0);
        for (int i = 0; i < 4; i++) {
            Due.is("its number", m.addStop(1000 - i), i);
            Due.is("its distance", m.stop(i, 0), 1000 - i);
        }
        Due.is("a fifth", m.addStop(1000), FULL);
        Due.is("four still", m.total(7), 4);
        Due.is("no stop 4", m.stop(4, 0), -1);
        Ledger.says("a stop is open or closed (at first)");
        Due.is("closed", m.stop(3, 1), 0);
        m.open(3);
        Due.is("open", m.stop(3, 1), 1);
        Due.is("the others are closed", m.total(8), 3);
        nextStop();
        Ledger.says("there may be none");
        m = new DockingMonitor();
        Due.is("without stops", m.total(5), NONE);
        m.addStop(10000);
        Due.is("only at x", m.total(5), NONE);
        m.place(9999, 0, 0, 0);
        Due.is("only beyond x", m.total(5), NONE);
        m.place(10001, 0, 0, 0);
        Due.is("one", m.total(5), 0);
        m.open(0);
        Due.is("only an open one", m.total(5), NONE);
        m.addStop(1);
        m.place(5, 0, -50, 0);
        m.pass(1);
        Due.is("a docked ship is beyond all", m.total(5), NONE);
    }

    private static void nextStop() {
        Ledger.says("The next stop is the closed one with the greatest distance that is less than x (of"
                + " several with the same distance the one with the smallest number)");
        DockingMonitor m = new DockingMonitor();
        m.addStop(2000);
        m.addStop(3000);
        m.addStop(3000);
        m.addStop(4000);
        m.place(3999, 0, 0, 0);
        Due.is("the first of two", m.total(5), 1);
        m.place(4000, 0, 0, 0);
        Due.is("one at x is not less", m.total(5), 1);
        m.place(4001, 0, 0, 0);
        Due.is("just less", m.total(5), 3);
        m.open(3);
        Due.is("an open one is passed over", m.total(5), 1);
        m.open(1);
        Due.is("then the second of two", m.total(5), 2);
        m.open(2);
        Due.is("then the one behind", m.total(5), 0);
        m = new DockingMonitor();
        m.addStop(1);
        m.place(2, 0, 0, 0);
        Due.is("the least distance of all", m.total(5), 0);
        m.addStop(99999);
        m.place(100000, 0, 0, 0);
        Due.is("the greatest", m.total(5), 1);
    }

    private static void sensors() {
        Ledger.says("have a bias each, in centimetres (0 at first)");
        DockingMonitor m = placed(2500, 0, 0, 0);
        Due.isFloat("far", m.bits(6), 25.0f);
        Due.isFloat("near", m.bits(7), 25.0f);
        Ledger.says("they measure x + bias");
        m.setBias(false, 500);
        m.setBias(true, -500);
        Due.isFloat("far", m.bits(6), 25.0f + 5.0f);
        Due.isFloat("near", m.bits(7), 25.0f + -5.0f);
        m.place(1, 0, 0, 0);
        Due.isFloat("below 0", m.bits(7), 1 / 100.0f + -5.0f);
        Ledger.says("The near sensor sees the ship if x is at most 30.0f, the far one always.");
        m = placed(3000, 0, 0, 0);
        m.pass(1);
        Due.is("at 30", m.total(3), 1);
        m = placed(3001, 0, 0, 0);
        m.pass(1);
        Due.is("beyond", m.total(3), 0);
        m.setBias(false, -500);
        m.setBias(true, -500);
        m.pass(3);
        Due.is("by x and not by what it measures", m.total(4), 0);
        m.place(100000, 0, 5000, 0);
        m.pass(200);
        Due.isFloat("the far one, far away", m.bits(6), 2000.0f + -5.0f);
        Ledger.says("The far sensor is in use at first.");
        Due.is("of a new one", new DockingMonitor().total(4), 0);
        Ledger.says("The measured distance m is that of the sensor in use.");
        m = placed(2500, 0, 0, 0);
        m.setBias(false, 20);
        Due.is("far", m.bits(4), m.bits(6));
        m.pass(3);
        Due.is("near", m.bits(4), m.bits(7));
        Due.isFloat("its distance", m.bits(4), 25.0f);
    }

    public static void main(String[] args) {
        Ledger.openPart("## Terms", "A second. When");
        numbers();
        sizes();
        held();
        shipAtFirst();
        settingsInUse();
        settings();
        profile();
        stops();
        sensors();
        Ledger.end();
    }
}
