/**
 * The boundary cases that the document's Terms name for a second and for the judgement. Each sentence
 * is quoted ahead of its checks.
 */
public final class SecondEdges {
    private static final float MOST = 50 / 1000.0f;
    private static final float PLUME = 10 / 1000.0f;

    private static DockingMonitor placed(int x, int y, int vx, int vy) {
        DockingMonitor m = new DockingMonitor();
        m.place(x, y, vx, vy);
        return m;
    }

    private static DockingMonitor approaching(int x, int y, int vx, int vy) {
        DockingMonitor m = placed(x, y, vx, vy);
        m.approach();
        return m;
    }

    private static DockingMonitor retreating(int x, int y, int vx, int vy) {
        DockingMonitor m = placed(x, y, vx, vy);
        m.retreat();
        return m;
    }

    /** A ship that stands at a stop and holds there. */
    private static DockingMonitor holding(int stop) {
        DockingMonitor m = new DockingMonitor();
        m.addStop(stop);
        m.set(4, 1);
        m.place(stop, 0, 0, 0);
        m.approach();
        Due.is("it holds", m.pass(1), 2);
        return m;
    }

    private static void inWhichModes() {
        Ledger.says("When a second passes in the modes 1, 2 and 3, the following happens, in this"
                + " order.");
        DockingMonitor m = approaching(2900, 0, 0, 0);
        m.pass(1);
        Due.isFloat("approaching, it is guided", m.bits(2), -MOST);
        Due.is("and compares its sensors", m.total(3), 1);
        m = retreating(2900, 0, 0, 0);
        m.pass(1);
        Due.isFloat("retreating, it is guided", m.bits(2), MOST);
        Due.is("and compares its sensors", m.total(3), 1);
        m = holding(2900);
        m.place(2900, 100, 0, 0);
        m.approach();
        m.pass(2);
        Due.isFloat("holding, it is guided", m.bits(3), -(1 / 1000.0f) + -(1 / 1000.0f));
        Due.is("and compares its sensors", m.total(3), 2);
        nothingInTheEndModes();
        Ledger.says("(In the mode 0 the steps 2, 3 and 4 happen, with accelerations of 0.0f");
        m = placed(2900, 100, -100, -10);
        m.addStop(2890);
        m.pass(1);
        Due.isFloat("x", m.bits(0), 29.0f + -100 / 1000.0f);
        Due.isFloat("y", m.bits(1), 1.0f + -10 / 1000.0f);
        Due.isFloat("vx", m.bits(2), -100 / 1000.0f);
        Due.isFloat("vy", m.bits(3), -10 / 1000.0f);
        Due.is("step 4", m.total(3), 1);
        m.place(2890, 300, 0, 0);
        Due.is("not the steps 5 and 6", m.pass(9), 0);
        m.place(2890, 3000, -900, 0);
        Due.is("not step 6", m.pass(2) + m.total(2), 0);
        m.place(5, 0, -50, 0);
        Due.is("step 3", m.pass(1), 4);
    }

    private static float bits(int bits) {
        return Float.intBitsToFloat(bits);
    }

    private static void nothingInTheEndModes() {
        Ledger.says("in the modes 4 and 5 nothing happens, but the second passes.)");
        for (int mode = 4; mode < 6; mode++) {
            DockingMonitor m = new DockingMonitor();
            m.addStop(1);
            m.place(10, mode == 4 ? 50 : 300, mode == 4 ? -50 : -500, 0);
            m.pass(2);
            Due.is("arrived", m.total(0), mode);
            int seconds = m.total(1);
            String before = butForSecondsAndStates(m);
            Due.is("passing", m.pass(200), mode);
            Due.is("the seconds", m.total(1), seconds + 200);
            Due.same("nothing else", butForSecondsAndStates(m), before);
        }
    }

    private static String butForSecondsAndStates(DockingMonitor m) {
        String[] words = Due.look(m).split(" ");
        words[8 + 1] = "-";
        words[8 + 9] = "-";
        return String.join(" ", words);
    }

    private static void wantedSpeeds() {
        Ledger.says("In the mode 1 the wanted speed is the negative limit at m");
        DockingMonitor m = approaching(5000, 0, -490, 0);
        m.pass(1);
        float v = -490 / 1000.0f;
        Due.isFloat("without points", m.bits(2), v + (-0.5f - v));
        m = new DockingMonitor();
        m.setPoint(5000, 20);
        m.setPoint(5200, 40);
        m.setBias(false, 200);
        m.place(5000, 0, 0, 0);
        m.approach();
        m.pass(1);
        Due.isFloat("at m, not at x", m.bits(2), -(40 / 1000.0f));
        towardsAStop();
        whileHolding();
        Ledger.says("In the mode 3 it is the limit at m.");
        m = retreating(5000, 0, 490, 0);
        m.pass(1);
        v = 490 / 1000.0f;
        Due.isFloat("without points", m.bits(2), v + (0.5f - v));
        m = new DockingMonitor();
        m.setPoint(5000, 20);
        m.setPoint(5200, 40);
        m.setBias(false, 200);
        m.place(5000, 0, 0, 0);
        m.retreat();
        m.pass(1);
        Due.isFloat("at m, not at x", m.bits(2), 40 / 1000.0f);
    }

    private static void towardsAStop() {
        Ledger.says("if there is a next stop with the distance h, it is 0.0f - (x - h) * 0.1f instead,"
                + " where this is greater.");
        for (int away : new int[] {450, 499, 500, 501, 550}) {
            DockingMonitor m = new DockingMonitor();
            m.addStop(5000);
            m.set(4, 500);
            m.place(5000 + away, 0, 0, 0);
            m.approach();
            m.pass(1);
            float slowing = 0.0f - ((5000 + away) / 100.0f - 50.0f) * 0.1f;
            Due.isFloat(away + " away", m.bits(2), slowing > -0.5f ? slowing : -0.5f);
        }
        DockingMonitor m = new DockingMonitor();
        m.addStop(5000);
        m.addStop(5100);
        m.addStop(6000);
        m.set(4, 500);
        m.place(5200, 0, 0, 0);
        m.approach();
        m.pass(1);
        Due.isFloat("the next one, not another", m.bits(2), 0.0f - (52.0f - 51.0f) * 0.1f);
        m.open(1);
        m.open(0);
        m.place(5200, 0, 0, 0);
        m.approach();
        m.pass(1);
        Due.isFloat("there is none", m.bits(2), -0.5f);
    }

    private static void whileHolding() {
        Ledger.says("In the mode 2, with h as the distance of the stop that is held, it is"
                + " (h - x) * 0.1f.");
        for (int x : new int[] {4990, 5000, 5010}) {
            DockingMonitor m = new DockingMonitor();
            m.addStop(5000);
            m.addStop(4985);
            m.set(4, 1);
            m.place(x, 0, 0, 0);
            m.approach();
            Due.is("it holds", m.pass(1), 2);
            Due.is("the first of two", m.stop(0, 2), 1);
            m.set(4, 500);
            float at = bits(m.bits(0));
            float v = bits(m.bits(2));
            m.pass(1);
            Due.isFloat("from " + x, m.bits(2), v + ((50.0f - at) * 0.1f - v));
        }
    }

    private static void accelerations() {
        Ledger.says("The acceleration ax is the wanted speed - vx, held between the negative greatest"
                + " acceleration and the greatest acceleration");
        for (int v : new int[] {-1000, -551, -549, -500, -451, -449, 0}) {
            DockingMonitor m = approaching(5000, 0, v, 0);
            float vx = v / 1000.0f;
            float wanted = -0.5f - vx;
            float ax = wanted < -MOST ? -MOST : wanted > MOST ? MOST : wanted;
            m.pass(1);
            Due.isFloat("approaching at " + v, m.bits(2), vx + ax);
        }
        Ledger.says("then, if ax is greater than the plume acceleration, and x is less than the plume"
                + " distance, it is the plume acceleration.");
        plumeAt("at the plume distance", 1000, -100, MOST);
        plumeAt("just less than it", 999, -100, PLUME);
        plumeAt("beyond it", 1001, -100, MOST);
        plumeAt("near the target", 300, -100, PLUME);
        float at = 491 / 1000.0f;
        float wanted = 0.5f - at;
        plumeAt("less than the plume acceleration", 999, 491, wanted);
        plumeAt("a negative acceleration", 999, 600, -MOST);
        DockingMonitor m = new DockingMonitor();
        m.set(5, 500);
        m.place(999, 0, -100, 0);
        m.retreat();
        m.pass(1);
        Due.isFloat("never more than the greatest", m.bits(2), -100 / 1000.0f + MOST);
        m.set(5, 0);
        m.place(999, 0, -600, 0);
        m.approach();
        m.pass(1);
        Due.isFloat("none at all, approaching", m.bits(2), -600 / 1000.0f);
        across();
    }

    private static void plumeAt(String what, int x, int v, float due) {
        DockingMonitor m = retreating(x, 0, v, 0);
        m.pass(1);
        Due.isFloat(what, m.bits(2), v / 1000.0f + due);
    }

    private static void across() {
        Ledger.says("The acceleration ay is 0.0f - y * 0.05f - vy, held between the negative greatest"
                + " acceleration and the greatest acceleration.");
        int[][] cases = {{0, 0}, {100, 0}, {-100, 0}, {99, 0}, {101, 0}, {-99, 0}, {-101, 0}, {0, 49},
            {0, 51}, {0, -49}, {0, -51}, {50, 20}, {-50, -20}, {500, -300}, {-500, 300}, {0, 5000}};
        for (int[] c : cases) {
            DockingMonitor m = retreating(500, c[0], 0, c[1]);
            float y = c[0] / 100.0f;
            float vy = c[1] / 1000.0f;
            float ay = 0.0f - y * 0.05f - vy;
            ay = ay < -MOST ? -MOST : ay > MOST ? MOST : ay;
            m.pass(1);
            Due.isFloat("vy at " + c[0] + " with " + c[1], m.bits(3), vy + ay);
            Due.isFloat("y at " + c[0] + " with " + c[1], m.bits(1), y + (vy + ay));
        }
    }

    private static void moving() {
        Ledger.says("vx becomes vx + ax, vy becomes vy + ay, x becomes x + vx, y becomes y + vy, in this"
                + " order.");
        DockingMonitor m = retreating(5000, 100, -123, 45);
        m.pass(1);
        float vx = -123 / 1000.0f + MOST;
        float vy = 45 / 1000.0f + -MOST;
        Due.isFloat("vx", m.bits(2), vx);
        Due.isFloat("vy", m.bits(3), vy);
        Due.isFloat("x, by the new vx", m.bits(0), 50.0f + vx);
        Due.isFloat("y, by the new vy", m.bits(1), 1.0f + vy);
    }

    private static void arriving() {
        Ledger.says("If x is at most 0.0f, the ship arrives");
        DockingMonitor m = placed(5, 0, -50, 0);
        Due.is("at 0", m.pass(1), 4);
        m = placed(5, 0, -49, 0);
        Due.is("a millimetre away", m.pass(1), 0);
        Due.is("then behind 0", m.pass(1), 4);
        hardlyThere();
        m = approaching(5, 0, 0, 0);
        Due.is("approaching", m.pass(1), 4);
        m = retreating(5, 0, -300, 0);
        Due.is("retreating", m.pass(1), 5);
        arrivesHolding();
        Ledger.says("it is docked if the size of vx is at most the docking speed and the size of y is at"
                + " most the margin, and otherwise crashed");
        int[][] cases = {{0, -49, 4}, {0, -50, 4}, {0, -51, 5}, {50, -50, 4}, {51, -50, 5}, {-50, -50, 4},
            {-51, -50, 5}, {51, -51, 5}};
        for (int[] c : cases) {
            m = placed(4, c[0], c[1], 0);
            Due.is("at " + c[0] + " with " + c[1], m.pass(1), c[2]);
        }
        m = new DockingMonitor();
        m.set(1, 0);
        m.set(7, 10);
        m.place(1, 0, -10, 0);
        Due.is("without a margin, at 0", m.pass(1), 4);
        m.place(1, 1, -10, 0);
        Due.is("without a margin, at 1", m.pass(1), 5);
        m.place(1, 0, -11, 0);
        Due.is("faster than the least docking speed", m.pass(1), 5);
        m.place(1, 1, -10, -10);
        Due.is("y as it is behind the move", m.pass(1), 4);
        for (int n = 10; n <= 500; n++) {
            m.set(1, n);
            m.set(7, n);
            m.place(1, n, -n, 0);
            Due.is("both just met, with " + n, m.pass(1), 4);
            m.place(1, n + 1, -n, 0);
            Due.is("the margin just not, with " + n, m.pass(1), 5);
            m.place(1, n, -n - 1, 0);
            Due.is("the speed just not, with " + n, m.pass(1), 5);
        }
        m.place(5, 500, -50, 1);
        Due.is("a millimetre out of the greatest margin", m.pass(1), 5);
        hardlyTooFast();
        secondEndsAtArrival();
    }

    /** Sums that are rounded bring a ship so near to 0 that nothing but 0 itself decides. */
    private static void hardlyThere() {
        int above = 0;
        int below = 0;
        for (int v = 10; v <= 500; v += 10) {
            for (int seconds = 2; seconds <= 12; seconds++) {
                DockingMonitor m = placed(v / 10 * seconds, 0, -v, 0);
                float x = v / 10 * seconds / 100.0f;
                for (int i = 0; i < seconds; i++) {
                    x = x + -v / 1000.0f;
                }
                m.pass(seconds);
                Due.is(seconds + " seconds at " + v, m.total(0) > 3 ? 1 : 0, x <= 0.0f ? 1 : 0);
                above += x > 0.0f ? 1 : 0;
                below += x < 0.0f ? 1 : 0;
                m.place(v / 10 * seconds, 0, -v, 0);
                m.set(6, seconds);
                Due.is("the drift of " + seconds + " at " + v, m.judgement() & 4, x < 0.0f ? 4 : 0);
            }
        }
        Due.is("some are hardly above 0", above > 0 ? 1 : 0, 1);
        Due.is("some are hardly below", below > 0 ? 1 : 0, 1);
    }

    private static void arrivesHolding() {
        DockingMonitor m = new DockingMonitor();
        m.set(4, 1);
        m.addStop(3);
        m.place(7, 0, -49, 0);
        m.approach();
        Due.is("it holds", m.pass(1), 2);
        Due.is("holding", m.pass(1), 4);
        Due.is("then no stop is held", m.stop(0, 2), 0);
        Due.is("and opening it", m.open(0), 0);
        Due.is("leaves it docked", m.total(0), 4);
    }

    /** The speed of a limit between two points, kept by a plume acceleration of 0. */
    private static void hardlyTooFast() {
        for (int x = 48; x <= 52; x++) {
            DockingMonitor m = new DockingMonitor();
            m.setPoint(0, 490);
            m.setPoint(100, 510);
            m.set(4, 500);
            m.set(5, 0);
            m.set(7, 500);
            m.place(x, 0, -200, 0);
            float vx = -200 / 1000.0f;
            vx = vx + (-Float.intBitsToFloat(m.limit(x)) - vx);
            m.approach();
            m.pass(1);
            if (m.total(0) == 1) {
                Due.isFloat("its speed", m.bits(2), vx);
                m.pass(1);
            }
            Due.is("arrived with " + vx, m.total(0), -vx <= 0.5f ? 4 : 5);
        }
    }

    private static void secondEndsAtArrival() {
        Ledger.says("x, vx and vy become 0.0f, and the second ends here.");
        DockingMonitor m = placed(5, 20, -70, 15);
        m.addStop(10);
        m.pass(1);
        Due.is("x", m.bits(0), 0);
        Due.isFloat("y stays", m.bits(1), 20 / 100.0f + 15 / 1000.0f);
        Due.is("vx", m.bits(2), 0);
        Due.is("vy", m.bits(3), 0);
        Due.is("not step 4", m.total(3), 0);
        m = new DockingMonitor();
        m.addStop(10);
        m.place(130, 0, -1200, 0);
        m.approach();
        m.pass(1);
        Due.is("a strike", m.total(2), 1);
        Due.is("an agreement", m.total(3), 1);
        Due.is("it crashes", m.pass(1), 5);
        Due.is("the strike stays", m.total(2), 1);
        Due.is("the agreement stays", m.total(3), 1);
        Due.is("no stop is held", m.stop(0, 2), 0);
        m = placed(29, 0, -100, 0);
        m.pass(2);
        Due.is("two agreements", m.total(3), 2);
        Due.is("it crashes", m.pass(1), 5);
        Due.is("the near sensor does not come into use", m.total(4), 0);
    }

    private static void agreements() {
        Ledger.says("If the far sensor is in use, the near sensor sees the ship, and the size of the"
                + " difference of what they measure (far - near) is less than 0.5f, the agreements"
                + " become 1 more, and otherwise 0");
        int[][] cases = {{3000, 0, 0, 1}, {3001, 0, 0, 0}, {2000, 50, 0, 0}, {2000, 49, 0, 1},
            {2000, -50, 0, 0}, {2000, -49, 0, 1}, {2000, 0, 50, 0}, {2000, 0, 49, 1},
            {2000, 500, 460, 1}, {2000, -500, 500, 0}, {2000, 500, 500, 1}};
        for (int[] c : cases) {
            DockingMonitor m = placed(c[0], 0, 0, 0);
            m.setBias(false, c[1]);
            m.setBias(true, c[2]);
            m.pass(1);
            Due.is("at " + c[0] + " with " + c[1] + " and " + c[2], m.total(3), c[3]);
        }
        hardlyDifferent();
        DockingMonitor m = placed(2900, 0, 500, 0);
        m.pass(2);
        Due.is("two", m.total(3), 2);
        m.pass(1);
        Due.is("out of sight", m.total(3), 0);
        m = placed(2900, 0, 0, 0);
        m.pass(2);
        m.setBias(true, 51);
        m.pass(1);
        Due.is("too different", m.total(3), 0);
        Ledger.says("if they are 3, the near sensor comes into use, and the agreements become 0.");
        m = placed(2900, 0, 0, 0);
        m.pass(2);
        Due.is("two are not enough", m.total(4), 0);
        m.pass(1);
        Due.is("three", m.total(4), 1);
        Due.is("none left", m.total(3), 0);
        m.pass(5);
        Due.is("none are counted for the sensor in use", m.total(3), 0);
        Due.is("one change", m.total(12), 1);
        lostFromSight();
    }

    /** Rounding makes the difference of two biases a little more or less than 0.5f. */
    private static void hardlyDifferent() {
        int agreeing = 0;
        for (int x = 1; x <= 3000; x += 7) {
            DockingMonitor m = placed(x, 0, 0, 0);
            m.setBias(false, 50);
            m.pass(1);
            float at = x / 100.0f;
            float difference = at + 0.5f - (at + 0.0f);
            Due.is("at " + x, m.total(3), difference < 0.5f ? 1 : 0);
            agreeing += difference < 0.5f ? 1 : 0;
        }
        Due.is("some agree, others don't", agreeing > 0 && agreeing < 400 ? 1 : 0, 1);
    }

    private static void lostFromSight() {
        Ledger.says("If the near sensor is in use and does not see the ship, the far one comes into"
                + " use.");
        DockingMonitor m = placed(2800, 0, 500, 0);
        m.pass(4);
        Due.isFloat("at 30", m.bits(0), 30.0f);
        Due.is("it still sees it", m.total(4), 1);
        m.pass(1);
        Due.is("beyond 30", m.total(4), 0);
        Due.is("two changes", m.total(12), 2);
        m.pass(9);
        Due.is("no more", m.total(12), 2);
        m = placed(2000, 0, 0, 0);
        m.pass(3);
        m.setBias(true, 500);
        m.setBias(false, -500);
        m.pass(3);
        Due.is("a difference does not matter then", m.total(4), 1);
    }

    private static void stopping() {
        Ledger.says("In the mode 1, if there is a closed stop with a distance h for which the size of"
                + " x - h is less than 0.2f, and the size of vx is less than 0.05f, the mode becomes 2,"
                + " and the stop is held (of several the one with the smallest number).");
        int[][] standing = {{39, 20, 2}, {40, 20, 1}, {20, 39, 2}, {20, 40, 1}, {20, 20, 2}};
        for (int[] c : standing) {
            DockingMonitor m = new DockingMonitor();
            m.addStop(c[1]);
            m.set(4, 1);
            m.place(c[0], 0, 1, 0);
            m.approach();
            Due.is("standing at " + c[0] + ", a stop at " + c[1], m.pass(1), c[2]);
            Due.isFloat("where it was", m.bits(0), c[0] / 100.0f);
            Due.is("held", m.stop(0, 2), c[2] - 1);
        }
        for (int limit = 48; limit < 52; limit++) {
            DockingMonitor m = new DockingMonitor();
            m.addStop(5000);
            m.setPoint(0, limit);
            m.place(4990, 0, -limit, 0);
            m.approach();
            Due.is("at the speed " + -limit, m.pass(1), limit < 50 ? 2 : 1);
            Due.isFloat("its speed", m.bits(2), -limit / 1000.0f);
        }
        for (int v = 49; v < 53; v++) {
            DockingMonitor m = new DockingMonitor();
            m.addStop(5000);
            m.set(4, 1);
            m.place(4990, 0, v, 0);
            m.approach();
            m.pass(1);
            float vx = v / 1000.0f + -(1 / 1000.0f);
            Due.isFloat("its speed away from the target", m.bits(2), vx);
            Due.is("at the speed " + v, m.total(0), vx < 0.05f ? 2 : 1);
        }
        hardlyAtTheStop();
        hardlySlow();
        ofSeveralStops();
    }

    /** Rounding makes 0.2f between a ship and its stop a little more or less. */
    private static void hardlyAtTheStop() {
        int holding = 0;
        for (int stop = 1; stop <= 6000; stop += 13) {
            DockingMonitor m = new DockingMonitor();
            m.addStop(stop);
            m.set(4, 1);
            m.place(stop + 20, 0, 1, 0);
            m.approach();
            float away = (stop + 20) / 100.0f - stop / 100.0f;
            Due.is("a stop at " + stop, m.pass(1), away < 0.2f ? 2 : 1);
            holding += away < 0.2f ? 1 : 0;
        }
        Due.is("some hold, others don't", holding > 0 && holding < 400 ? 1 : 0, 1);
    }

    /** Speeds by a limit that grows in steps of 0.00002f. */
    private static void hardlySlow() {
        for (int x = 5480; x <= 5520; x++) {
            DockingMonitor m = new DockingMonitor();
            m.setPoint(5000, 40);
            m.setPoint(6000, 60);
            m.addStop(x + 10);
            m.set(4, 500);
            m.place(x, 0, 0, 0);
            float limit = Float.intBitsToFloat(m.limit(x));
            m.approach();
            m.pass(1);
            Due.isFloat("the speed of the limit", m.bits(2), -limit);
            Due.is("at the speed " + limit, m.total(0), limit < 0.05f ? 2 : 1);
        }
    }

    private static void ofSeveralStops() {
        DockingMonitor m = new DockingMonitor();
        m.addStop(5010);
        m.addStop(4995);
        m.addStop(5000);
        m.addStop(5000);
        m.set(4, 1);
        m.place(5000, 0, 0, 0);
        m.open(0);
        m.approach();
        m.pass(1);
        int[] held = {0, 1, 0, 0};
        for (int i = 0; i < 4; i++) {
            Due.is("stop " + i, m.stop(i, 2), held[i]);
        }
        m = new DockingMonitor();
        m.addStop(5000);
        m.set(4, 1);
        m.place(5000, 0, 0, 0);
        Due.is("a free ship", m.pass(1), 0);
        m.place(4985, 0, 0, 0);
        m.retreat();
        Due.is("a retreating ship", m.pass(1), 3);
        m.open(0);
        m.approach();
        Due.is("an open stop", m.pass(1), 1);
    }

    private static void strikes() {
        Ledger.says("In the mode 1 (as it is now, behind step 5) the ship is judged (see below)");
        DockingMonitor m = new DockingMonitor();
        m.addStop(5000);
        m.set(4, 1);
        m.place(5000, 3000, 0, 0);
        m.approach();
        Due.is("it holds", m.pass(1), 2);
        Due.is("and was not judged", m.total(2), 0);
        Ledger.says("if the judgement is not 0, the strikes become 1 more, and otherwise 0");
        int[][] unsafe = {{10000, 3000, 0, 1}, {10000, 0, -700, 2}, {700, 0, -300, 4}};
        for (int[] u : unsafe) {
            m = approaching(u[0], u[1], u[2], 0);
            m.pass(1);
            Due.is("the judgement", m.judgement(), u[3]);
            Due.is("a strike", m.total(2), 1);
        }
        m = approaching(10000, 0, -580, 0);
        m.pass(1);
        Due.is("a strike", m.total(2), 1);
        Due.is("it approaches on", m.pass(1), 1);
        Due.is("safe then", m.judgement(), 0);
        Due.is("no strike", m.total(2), 0);
        Due.is("never judged other than 0", approaching(10000, 0, 0, 0).pass(100), 1);
        Ledger.says("if they are 2, the mode becomes 3, and the strikes become 0.");
        m = approaching(10000, 0, -700, 0);
        Due.is("one", m.pass(1), 1);
        Due.is("two", m.pass(1), 3);
        Due.is("none left", m.total(2), 0);
        Due.is("counted", m.total(11), 1);
        strikesOfOtherModes();
    }

    private static void strikesOfOtherModes() {
        Ledger.says("(In other modes the strikes stay as they are.)");
        DockingMonitor m = approaching(10000, 3000, 0, 0);
        m.pass(1);
        m.retreat();
        Due.is("retreating, judged 1", m.pass(3), 3);
        Due.is("the strike stays", m.total(2), 1);
        m.release();
        m.pass(3);
        Due.is("a free ship's too", m.total(2), 1);
        m = approaching(10000, 0, -580, 0);
        m.pass(1);
        m.retreat();
        Due.is("retreating, judged 0 in the end", m.pass(9), 2);
        Due.is("then too", m.total(2), 1);
        m.pass(3);
        Due.is("and while it holds", m.total(2), 1);
        Ledger.says("In the mode 3, if the judgement is 0 and x is greater than 50.0f, the mode becomes 2"
                + " without a stop that is held");
        m = retreating(4950, 0, 500, 0);
        Due.is("at 50", m.pass(1), 3);
        Due.isFloat("just there", m.bits(0), 50.0f);
        Due.is("beyond", m.pass(1), 2);
        m = new DockingMonitor();
        m.set(4, 1);
        m.place(5000, 0, 0, 0);
        m.retreat();
        Due.is("a millimetre beyond", m.pass(1), 2);
        m = retreating(5100, 3000, 0, 0);
        Due.is("judged 1", m.pass(1), 3);
        m = retreating(5100, 0, -700, 0);
        Due.is("judged 2", m.pass(1), 3);
        m = new DockingMonitor();
        m.addStop(5050);
        m.set(4, 1);
        m.place(5050, 0, 0, 0);
        m.retreat();
        Due.is("at a stop", m.pass(1), 2);
        Due.is("which is not held", m.stop(0, 2), 0);
        Due.is("opening it", m.open(0), 0);
        Due.is("leaves it holding", m.total(0), 2);
        Ledger.says("it holds at the distance that x has then");
        float x = 50.5f + 1 / 1000.0f;
        Due.isFloat("x", m.bits(0), x);
        m.set(4, 500);
        m.pass(1);
        float vx = 1 / 1000.0f;
        vx = vx + ((x - x) * 0.1f - vx);
        Due.isFloat("no speed", m.bits(2), vx);
        m.set(4, 1);
        m.pass(99);
        Due.isFloat("it stays there", m.bits(0), x + vx);
    }

    private static void judging() {
        Ledger.says("1 if the size of y is greater than x * slope + margin");
        Due.is("at the edge", placed(1000, 250, 0, 0).judgement(), 0);
        Due.is("at the other edge", placed(1000, -250, 0, 0).judgement(), 0);
        Due.is("beyond", placed(1000, 251, 0, -40).judgement(), 1);
        Due.is("beyond the other", placed(1000, -251, 0, 40).judgement(), 1);
        Due.is("less far away", placed(999, 250, 0, -40).judgement(), 1);
        DockingMonitor hardly = new DockingMonitor();
        hardly.set(1, 500);
        hardly.place(1000, 700, 0, 1);
        Due.is("at the edge of the greatest margin", hardly.judgement() & 1, 0);
        hardly.pass(1);
        Due.is("a millimetre beyond it", hardly.judgement() & 1, 1);
        Ledger.says("2 if 0.0f - vx is greater than the limit at x, plus 0.01f");
        boolean equal = false;
        DockingMonitor m = new DockingMonitor();
        m.set(6, 1);
        for (int limit = 1; limit <= 300; limit++) {
            m.setPoint(0, limit);
            for (int v = limit + 9; v < limit + 12; v++) {
                float most = limit / 1000.0f + 0.01f;
                float speed = 0.0f - -v / 1000.0f;
                m.place(10000, 0, -v, 0);
                Due.is("limit " + limit + ", speed " + v, m.judgement(), speed > most ? 2 : 0);
                equal |= speed == most;
            }
        }
        Due.is("some speeds are just the greatest", equal ? 1 : 0, 1);
        m = placed(10000, 0, 5000, 0);
        Due.is("away from the target", m.judgement(), 0);
        m.setBias(false, -500);
        m.setPoint(9500, 100);
        m.setPoint(10000, 3000);
        m.place(10000, 0, -2900, 0);
        m.set(6, 1);
        Due.is("at x, not at m", m.judgement(), 0);
        drifting();
        Ledger.says("The judgement is the sum of these");
        Due.is("1 and 2", placed(5000, 3000, -600, 0).judgement(), 3);
        Due.is("1 and 4", placed(300, 200, 0, 0).judgement(), 5);
        Due.is("2 and 4", placed(1000, 0, -600, 0).judgement(), 6);
        Due.is("all", placed(400, 300, -600, 0).judgement(), 7);
        Due.is("none", placed(5000, 0, 0, 0).judgement(), 0);
    }

    private static DockingMonitor drifter(int seconds, int radius) {
        DockingMonitor m = new DockingMonitor();
        m.setPoint(0, 5000);
        m.set(6, seconds);
        m.set(2, radius);
        return m;
    }

    private static void drifting() {
        Ledger.says("4 if a drift is not safe.");
        Due.is("through the target", placed(1000, 0, -400, 0).judgement(), 4);
        Due.is("not so far", placed(1000, 0, -300, 0).judgement(), 0);
        Ledger.says("A drift begins with x and y");
        DockingMonitor m = drifter(1, 500);
        Due.is("in the zone and outside of the corridor, out of it in a second",
                m.place(100, 100, 0, 5000), 1);
        m.setBias(false, -500);
        Due.is("with x and not with m", m.place(600, 0, -2000, 0), 0);
        Ledger.says("in each second of the drift its x becomes x + vx and its y becomes y + vy");
        m = drifter(60, 100);
        Due.is("in the last second", m.place(595, 0, -100, 0), 4);
        m.set(6, 59);
        Due.is("not in the one ahead of it", m.judgement(), 0);
        m.set(6, 1);
        Due.is("across, in one second", m.place(50, 0, 0, 700), 4);
        Due.is("the other way", m.place(50, 0, 0, -700), 4);
        m.set(6, 60);
        Due.is("into the zone and out of it", m.place(50, -610, 0, 300), 5);
        m.set(6, 18);
        Due.is("in it", m.judgement(), 5);
        m.set(6, 17);
        Due.is("not yet", m.judgement(), 1);
        unsafeSeconds();
    }

    private static void unsafeSeconds() {
        Ledger.says("it is not safe if behind one of its seconds x * x + y * y is less than the radius *"
                + " radius");
        DockingMonitor m = drifter(1, 500);
        Due.is("just the radius away", m.place(400, 300, 0, 0), 1);
        Due.is("just the radius away, behind the target", m.place(100, 300, -5000, 0), 1);
        Due.is("less, behind the target", m.place(101, 300, -5000, 0), 5);
        Due.is("less", m.place(399, 300, 0, 0), 5);
        Due.is("more", m.place(401, 300, 0, 0), 1);
        for (int radius = 100; radius <= 5000; radius += 7) {
            m = drifter(1, radius);
            Due.is("just a radius of " + radius + " away", m.place(5, radius, -50, 0), 1);
            Due.is("a little less", m.place(5, radius - 1, -50, 0), 5);
        }
        m = drifter(1, 100);
        Due.is("one metre behind the target", m.place(400, 0, -5000, 0), 0);
        Due.is("less than that", m.place(401, 0, -5000, 0), 4);
        Ledger.says("and the size of y is greater than x * slope + margin, or x is less than 0.0f.");
        m = drifter(1, 500);
        Due.is("at the edge of the corridor", m.place(100, 70, 0, 0), 0);
        Due.is("beyond it", m.place(100, 71, 0, 0), 5);
        Due.is("beyond the other", m.place(100, -71, 0, 0), 5);
        Due.is("into it in a second", m.place(100, 71, 0, -20), 1);
        Due.is("out of it in a second", m.place(100, 69, 0, 20), 4);
        Due.is("at 0", m.place(5, 0, -50, 0), 0);
        Due.is("behind 0", m.place(5, 0, -51, 0), 4);
        Ledger.says("(This \"and\" joins the first with either of both others; speeds stay as they"
                + " are.)");
        Due.is("outside of the corridor and of the zone", m.place(1000, 1000, 0, 0), 1);
        Due.is("behind the target, out of the zone", drifter(1, 100).place(100, 0, -3000, 0), 0);
        Due.is("within both", m.place(300, 50, 0, 0), 0);
        m = drifter(3, 500);
        m.place(110, 0, -300, 0);
        m.approach();
        Due.is("no guidance in a drift", m.judgement(), 0);
        m.set(6, 4);
        Due.is("four seconds", m.judgement(), 4);
    }

    public static void main(String[] args) {
        Ledger.openPart("A second. When", "The text. The text has");
        inWhichModes();
        wantedSpeeds();
        accelerations();
        moving();
        arriving();
        agreements();
        stopping();
        strikes();
        judging();
        Ledger.end();
    }
}
