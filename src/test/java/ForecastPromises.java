/** Promises 26 to 29: modeIn, secondsTo, closest, safeSpeed. */
public final class ForecastPromises {
    private static final int BAD_VALUE = -2;
    private static final int NONE = -5;

    private static DockingMonitor approaching() {
        DockingMonitor m = new DockingMonitor();
        m.setPoint(0, 40);
        m.setPoint(3000, 400);
        m.addStop(6000);
        m.place(7000, 100, 0, 0);
        m.approach();
        return m;
    }

    private static void ranges() {
        DockingMonitor m = approaching();
        String before = Due.look(m);
        for (int bad : new int[] {-1, 501, Integer.MIN_VALUE, Integer.MAX_VALUE}) {
            Due.is("26: out of range", m.modeIn(bad), BAD_VALUE);
            Due.is("28: out of range", m.closest(bad), BAD_VALUE);
        }
        for (int bad : new int[] {-1, 6, Integer.MIN_VALUE, Integer.MAX_VALUE}) {
            Due.is("27: out of range", m.secondsTo(bad), BAD_VALUE);
        }
        Due.same("26: nothing changes", Due.look(m), before);
    }

    private static void forecastsAreWhatPassTells() {
        for (int seconds : new int[] {0, 1, 2, 40, 60, 61, 199, 200}) {
            DockingMonitor m = approaching();
            String before = Due.look(m);
            int told = m.modeIn(seconds);
            Due.same("26: nothing changes", Due.look(m), before);
            int mode = seconds == 0 ? m.total(0) : m.pass(seconds);
            Due.is("26: the mode in " + seconds, told, mode);
        }
    }

    private static void firstTimes() {
        DockingMonitor m = approaching();
        m.open(0);
        String before = Due.look(m);
        int[] told = new int[6];
        for (int mode = 0; mode < 6; mode++) {
            told[mode] = m.secondsTo(mode);
        }
        Due.same("27: nothing changes", Due.look(m), before);
        int[] first = {NONE, NONE, NONE, NONE, NONE, NONE};
        first[m.total(0)] = 0;
        for (int second = 1; second <= 500; second++) {
            int mode = m.pass(1);
            if (first[mode] == NONE) {
                first[mode] = second;
            }
        }
        for (int mode = 0; mode < 6; mode++) {
            Due.is("27: first in mode " + mode, told[mode], first[mode]);
        }
        Due.is("27: a retreat was told", told[3] > 0 ? 1 : 0, 1);
    }

    /** A free ship that stands 500 or 501 seconds away from its arrival. */
    private static void theFiveHundredthSecond() {
        DockingMonitor m = new DockingMonitor();
        m.place(25000, 0, -500, 0);
        Due.is("27: in the 500th second", m.secondsTo(5), 500);
        Due.is("26: in the 500th second", m.modeIn(500), 5);
        Due.is("26: and not earlier", m.modeIn(499), 0);
        m.place(25001, 0, -500, 0);
        Due.is("27: not within 500", m.secondsTo(5), NONE);
        Due.is("26: not within 500", m.modeIn(500), 0);
        Due.is("27: now", m.secondsTo(0), 0);
        m.place(5, 0, -50, 0);
        Due.is("27: in the first second", m.secondsTo(4), 1);
        m.pass(1);
        Due.is("27: docked now", m.secondsTo(4), 0);
        Due.is("27: never free again", m.secondsTo(0), NONE);
        Due.is("26: docked stays", m.modeIn(500), 4);
    }

    private static void closestDistances() {
        DockingMonitor m = new DockingMonitor();
        m.place(1000, 300, -125, 0);
        Due.isFloat("28: the beginning", m.closest(0), 10.0f * 10.0f + 3.0f * 3.0f);
        Due.isFloat("28: after one", m.closest(1), 9.875f * 9.875f + 3.0f * 3.0f);
        Due.isFloat("28: after 79", m.closest(79), 0.125f * 0.125f + 3.0f * 3.0f);
        Due.isFloat("28: after 80", m.closest(80), 3.0f * 3.0f);
        Due.isFloat("28: it passes by", m.closest(500), 3.0f * 3.0f);
        m.place(1000, 300, 125, 125);
        Due.isFloat("28: going away", m.closest(500), 10.0f * 10.0f + 3.0f * 3.0f);
        m.place(1000, -300, 0, 125);
        Due.isFloat("28: across", m.closest(24), 10.0f * 10.0f);
        Due.isFloat("28: across, not yet", m.closest(23), 10.0f * 10.0f + 0.125f * 0.125f);
        Due.is("28: nothing changes", m.total(1), 0);
        m.approach();
        Due.isFloat("28: a drift has no guidance", m.closest(24), 10.0f * 10.0f);
        m.place(5, 20, -50, 0);
        m.pass(1);
        Due.isFloat("28: docked", m.closest(500), 20 / 100.0f * (20 / 100.0f));
    }

    private static void safe(String what, DockingMonitor m, int due) {
        String before = Due.look(m);
        Due.is("29: " + what, m.safeSpeed(), due);
        Due.same("29: nothing changes", Due.look(m), before);
    }

    private static void safeSpeeds() {
        DockingMonitor m = new DockingMonitor();
        int fast = 0;
        for (int n = 0; n <= 5000; n++) {
            if (!(0.0f - (0.0f - n / 1000.0f) > 0.5f + 0.01f)) {
                fast = n;
            }
        }
        safe("by the limit", m, fast);
        m.setPoint(0, 5000);
        safe("it leaps over the whole zone", m, 5000);
        m.set(2, 5000);
        safe("by the drift through the target", m, 3333);
        m.set(2, 500);
        m.set(6, 1);
        safe("the greatest of all", m, 5000);
        m.place(10000, 0, 4000, 0);
        safe("its own vx does not matter", m, 5000);
        m.setPoint(0, 4000);
        m.set(6, 60);
        m.place(100000, 90000, 0, 0);
        safe("nothing is near", m, 4010);
    }

    /** Between the unsafe speeds lie safe ones: the greatest one counts. */
    private static void leaps() {
        DockingMonitor m = new DockingMonitor();
        m.setPoint(0, 5000);
        m.set(2, 100);
        m.set(6, 1);
        m.place(300, 0, 0, 0);
        safe("it leaps over the zone", m, 5000);
        m.place(450, 0, 0, 0);
        safe("it ends in front of the target", m, 4500);
        m.place(450, 0, -4600, 0);
        Due.is("22: unsafe", m.judgement(), 4);
    }

    private static void noSafeSpeed() {
        DockingMonitor m = new DockingMonitor();
        m.set(2, 5000);
        m.place(1000, 1000, 0, 0);
        safe("none, though it stands", m, NONE);
        m.set(2, 1000);
        m.set(6, 1);
        safe("the corridor itself does not matter", m, safeBySearch(10.0f, 10.0f, 10.0f));
        m.set(2, 500);
        m.place(1, 0, 0, 0);
        safe("behind from 11 on", m, 10);
        m.place(1, 0, 0, 5000);
        safe("out of the zone in a second", m, 510);
        m.place(1, 100, 0, 0);
        safe("none in the zone", m, NONE);
    }

    private static void onlyStandingIsSafe() {
        DockingMonitor m = new DockingMonitor();
        m.set(2, 5000);
        m.place(1000, 250, 0, 0);
        safe("any speed leads out of the corridor", m, 0);
        m.place(1000, 251, 0, 0);
        safe("standing too", m, NONE);
    }

    /** With one second of drift, the slope 0.2f, the margin 0.5f and the limit 0.5f. */
    private static int safeBySearch(float x, float y, float r) {
        int best = NONE;
        for (int n = 0; n <= 5000; n++) {
            float v = 0.0f - n / 1000.0f;
            float px = x + v;
            boolean unsafe = px * px + y * y < r * r && (y > px * 0.2f + 0.5f || px < 0.0f);
            if (!unsafe && !(0.0f - v > 0.5f + 0.01f)) {
                best = n;
            }
        }
        return best;
    }

    public static void main(String[] args) {
        ranges();
        forecastsAreWhatPassTells();
        firstTimes();
        theFiveHundredthSecond();
        closestDistances();
        safeSpeeds();
        leaps();
        noSafeSpeed();
        onlyStandingIsSafe();
        Due.end();
    }
}
