/** Promises 19 to 25: bits, thousandths, limit, judgement, stop, point, total. */
public final class LookPromises {
    private static final int BAD_INDEX = -1;
    private static final int BAD_VALUE = -2;
    private static final int NONE = -5;

    private static void floatsOfTheShip() {
        DockingMonitor m = new DockingMonitor();
        m.setPoint(1000, 100);
        m.setPoint(5000, 300);
        m.setBias(false, -123);
        m.setBias(true, 77);
        m.place(2345, -678, -91, 13);
        float far = 2345 / 100.0f + -123 / 100.0f;
        float near = 2345 / 100.0f + 77 / 100.0f;
        float s = 100 / 1000.0f;
        float limit = s + (300 / 1000.0f - s) * ((far - 10.0f) / (50.0f - 10.0f));
        float[] due = {2345 / 100.0f, -678 / 100.0f, -91 / 1000.0f, 13 / 1000.0f, far, limit, far, near};
        for (int i = 0; i < 8; i++) {
            Due.isFloat("19: bits(" + i + ")", m.bits(i), due[i]);
            Due.is("20: thousandths(" + i + ")", m.thousandths(i), (int) (due[i] * 1000.0f));
        }
        for (int other : new int[] {-1, 8, 9, 100, Integer.MIN_VALUE, Integer.MAX_VALUE}) {
            Due.isFloat("19: any other is 0", m.bits(other), due[0]);
            Due.is("20: any other is 0", m.thousandths(other), (int) (due[0] * 1000.0f));
        }
        Due.is("20: cut towards 0", m.thousandths(1), -6780);
        m.setBias(true, -123);
        m.pass(3);
        m.setBias(true, 77);
        Due.is("19: near in use", m.total(4), 1);
        Due.is("19: then it is measured", m.bits(4), m.bits(7));
        Due.is("19: and the far one still tells", m.bits(6) == m.bits(7) ? 1 : 0, 0);
        m.place(3100, 0, 0, 0);
        Due.isFloat("19: near tells although it does not see", m.bits(7), 31.0f + 77 / 100.0f);
    }

    private static void measuredBelowZero() {
        DockingMonitor m = new DockingMonitor();
        m.setBias(false, -500);
        m.place(1, 0, 0, 0);
        Due.isFloat("19: a negative distance", m.bits(4), 1 / 100.0f + -5.0f);
        Due.is("20: a negative one", m.thousandths(4), (int) ((1 / 100.0f + -5.0f) * 1000.0f));
        m.setPoint(0, 7);
        m.setPoint(100, 70);
        Due.isFloat("19: its limit", m.bits(5), 7 / 1000.0f);
        m.setBias(false, -1);
        Due.isFloat("19: zero has no sign", m.bits(4), 0.0f);
    }

    private static void cutNumbers() {
        for (int v : new int[] {-5000, -999, -1, 0, 1, 2, 3, 7, 999, 1001, 4999, 5000}) {
            DockingMonitor m = new DockingMonitor();
            m.place(5, 0, v, v);
            Due.is("20: speed " + v, m.thousandths(2), (int) (v / 1000.0f * 1000.0f));
            Due.isFloat("19: speed " + v, m.bits(3), v / 1000.0f);
        }
    }

    private static void everySpeedAndDistance() {
        DockingMonitor m = new DockingMonitor();
        long sum = 0;
        long due = 0;
        for (int n = 1; n <= 5000; n++) {
            m.setPoint(0, n);
            sum = sum * 31 + m.limit(0);
            due = due * 31 + Float.floatToIntBits(n / 1000.0f);
            m.place(n * 20, n, -n, n);
            sum = sum * 31 + m.bits(0) + m.bits(1) + m.bits(2) + m.bits(3);
            due = due * 31 + Float.floatToIntBits(n * 20 / 100.0f) + Float.floatToIntBits(n / 100.0f)
                    + Float.floatToIntBits(-n / 1000.0f) + Float.floatToIntBits(n / 1000.0f);
        }
        Due.is("19: the bits of many numbers", sum, due);
    }

    /** A ship in the middle comes so near to it that its offset becomes subnormal. */
    private static void tinyNumbers() {
        DockingMonitor m = new DockingMonitor();
        m.addStop(4000);
        m.set(4, 40);
        m.place(4000, -5, 0, 0);
        m.approach();
        m.pass(1);
        Due.is("19: it holds", m.total(0), 2);
        float y = Float.intBitsToFloat(m.bits(1));
        float vy = Float.intBitsToFloat(m.bits(3));
        boolean subnormal = false;
        for (int i = 0; i < 400; i++) {
            m.pass(7);
            for (int s = 0; s < 7; s++) {
                float ay = 0.0f - y * 0.05f - vy;
                vy = vy + ay;
                y = y + vy;
            }
            Due.isFloat("19: a small y", m.bits(1), y);
            Due.isFloat("19: a small vy", m.bits(3), vy);
            Due.is("20: a small y", m.thousandths(1), (int) (y * 1000.0f));
            subnormal |= y != 0.0f && Math.abs(y) < Float.MIN_NORMAL;
        }
        Due.is("19: subnormal numbers came", subnormal ? 1 : 0, 1);
    }

    private static void greatNumbers() {
        DockingMonitor m = new DockingMonitor();
        m.place(100000, -100000, 5000, -5000);
        Due.write(m, "t200;t200;t200;t200;t200;t200;t200;t200;t200;t200;t200;t200;t200;t200;t200;t200;");
        float x = 1000.0f;
        float y = -1000.0f;
        for (int i = 0; i < 200; i++) {
            Due.is("15: sixteen acts", m.run(), 16);
            for (int s = 0; s < 3200; s++) {
                x = x + 5.0f;
                y = y + -5.0f;
            }
            Due.isFloat("19: a great x", m.bits(0), x);
            Due.isFloat("19: a great y", m.bits(1), y);
            Due.is("20: a great x", m.thousandths(0), (int) (x * 1000.0f));
            Due.is("20: a great y", m.thousandths(1), (int) (y * 1000.0f));
            Due.isFloat("28: a great square", m.closest(0), x * x + y * y);
        }
        Due.is("20: beyond the range of int", m.thousandths(0), Integer.MAX_VALUE);
        Due.is("20: and the other way", m.thousandths(1), Integer.MIN_VALUE);
    }

    private static void limits() {
        DockingMonitor m = new DockingMonitor();
        for (int bad : new int[] {-1, 100001, Integer.MIN_VALUE, Integer.MAX_VALUE}) {
            Due.is("21: out of range", m.limit(bad), BAD_VALUE);
        }
        Due.isFloat("21: without points", m.limit(0), 0.5f);
        Due.isFloat("21: without points", m.limit(100000), 0.5f);
        m.setPoint(1000, 111);
        for (int d : new int[] {0, 999, 1000, 1001, 100000}) {
            Due.isFloat("21: one point", m.limit(d), 111 / 1000.0f);
        }
        m.setPoint(3000, 333);
        m.setPoint(2000, 999);
        float[] speeds = {111 / 1000.0f, 999 / 1000.0f, 333 / 1000.0f};
        Due.isFloat("21: below all", m.limit(0), speeds[0]);
        Due.isFloat("21: at the first", m.limit(1000), speeds[0]);
        Due.isFloat("21: at the last", m.limit(3000), speeds[2]);
        Due.isFloat("21: above all", m.limit(3001), speeds[2]);
        for (int d = 1001; d < 3000; d++) {
            int i = d < 2000 ? 0 : 1;
            float p = i == 0 ? 10.0f : 20.0f;
            float q = i == 0 ? 20.0f : 30.0f;
            float due = speeds[i] + (speeds[i + 1] - speeds[i]) * ((d / 100.0f - p) / (q - p));
            Due.isFloat("21: between, at " + d, m.limit(d), due);
        }
    }

    /** A full profile, and a point at which the interpolation from below would not give its speed. */
    private static void limitsOfAFullProfile() {
        DockingMonitor m = new DockingMonitor();
        boolean differs = false;
        int[] speeds = {5000, 1, 4999, 3, 4998, 7};
        for (int i = 0; i < 6; i++) {
            m.setPoint(1000 * i + 1, speeds[i]);
        }
        for (int i = 0; i < 6; i++) {
            float t = speeds[i] / 1000.0f;
            float s = speeds[i > 0 ? i - 1 : 0] / 1000.0f;
            differs |= i > 0 && i < 5 && s + (t - s) != t;
            Due.isFloat("21: at point " + i, m.limit(1000 * i + 1), t);
        }
        Due.is("21: such a point is among them", differs ? 1 : 0, 1);
        Due.isFloat("21: above all", m.limit(5002), 7 / 1000.0f);
        Due.isFloat("21: below all", m.limit(0), 5.0f);
    }

    private static void judgements() {
        DockingMonitor m = new DockingMonitor();
        m.setPoint(0, 100);
        m.setPoint(10000, 100);
        m.set(6, 1);
        for (int v = 105; v < 115; v++) {
            m.place(9000, 0, -v, 0);
            Due.is("22: too fast at " + v, m.judgement(),
                    0.0f - -v / 1000.0f > 100 / 1000.0f + 0.01f ? 2 : 0);
        }
        m.place(9000, 0, 5000, 0);
        Due.is("22: away is never too fast", m.judgement(), 0);
        m.setBias(false, 500);
        m.setPoint(9000, 4000);
        m.place(9000, 0, -3900, 0);
        Due.is("22: the limit at x and not at m", m.judgement(), 0);
    }

    private static void driftJudgements() {
        DockingMonitor m = new DockingMonitor();
        m.setPoint(0, 5000);
        m.place(1000, 0, -333, 0);
        Due.is("22: not through in 30 seconds", m.judgement(), 0);
        m.place(1000, 0, -334, 0);
        Due.is("22: through in 30 seconds", m.judgement(), 4);
        m.set(6, 29);
        Due.is("22: but not in 29", m.judgement(), 0);
        m.set(6, 1);
        m.place(500, 500, -1000, -100);
        Due.is("22: outside of the zone, near the target", m.judgement(), 1);
        m.set(2, 1000);
        Due.is("22: in the zone", m.judgement(), 5);
        m.set(2, 500);
        m.place(500, 0, -5000, 0);
        Due.is("22: at 0 it is not behind", m.judgement(), 0);
        m.place(499, 0, -5000, 0);
        Due.is("22: behind", m.judgement(), 4);
        m.set(2, 100);
        m.place(400, 0, -5000, 0);
        Due.is("22: a radius away is not less", m.judgement(), 0);
        m.place(401, 0, -5000, 0);
        Due.is("22: less than a radius away", m.judgement(), 4);
        m.set(2, 5000);
        m.place(1000, 0, 0, 5000);
        Due.is("22: across", m.judgement(), 4);
        m.place(1000, 0, 0, -5000);
        Due.is("22: across the other way", m.judgement(), 4);
        m.place(1000, 240, 0, 0);
        Due.is("22: in the corridor", m.judgement(), 0);
        m.place(1000, 260, 0, -1000);
        Due.is("22: the beginning is not of the drift", m.judgement(), 1);
        m.place(1000, 250, 0, 0);
        Due.is("22: the edge itself is inside", m.judgement(), 0);
        m.place(1000, -250, 0, 0);
        Due.is("22: the other edge too", m.judgement(), 0);
        m.place(1000, 251, 0, 0);
        Due.is("22: beyond it is outside", m.judgement(), 5);
        m.place(1000, 240, 0, 110);
        Due.is("22: beyond the edge", m.judgement(), 4);
        m.set(0, 500);
        Due.is("22: a wider corridor", m.judgement(), 0);
        m.set(0, 200);
        m.set(1, 500);
        Due.is("22: a wider margin", m.judgement(), 0);
    }

    private static void judgementOfAnArrivedShip() {
        DockingMonitor m = new DockingMonitor();
        m.place(5, 60, -60, 0);
        m.pass(1);
        Due.is("22: crashed outside", m.judgement(), 5);
        m.place(5, 0, -60, 0);
        m.pass(1);
        Due.is("22: crashed inside", m.judgement(), 0);
    }

    private static void stopProperties() {
        DockingMonitor m = new DockingMonitor();
        m.addStop(1234);
        for (int bad : new int[] {-1, 1, 4, Integer.MIN_VALUE, Integer.MAX_VALUE}) {
            Due.is("23: no such stop", m.stop(bad, 0), BAD_INDEX);
            Due.is("23: no such stop goes first", m.stop(bad, 3), BAD_INDEX);
        }
        for (int bad : new int[] {-1, 3, Integer.MIN_VALUE, Integer.MAX_VALUE}) {
            Due.is("23: no such property", m.stop(0, bad), BAD_VALUE);
        }
        Due.is("23: distance", m.stop(0, 0), 1234);
        Due.is("23: closed", m.stop(0, 1), 0);
        Due.is("23: not held", m.stop(0, 2), 0);
        m.open(0);
        Due.is("23: open", m.stop(0, 1), 1);
    }

    private static void pointProperties() {
        DockingMonitor m = new DockingMonitor();
        m.setPoint(12, 34);
        for (int bad : new int[] {-1, 1, 6, Integer.MIN_VALUE, Integer.MAX_VALUE}) {
            Due.is("24: no such point", m.point(bad, 0), BAD_INDEX);
            Due.is("24: no such point goes first", m.point(bad, 2), BAD_INDEX);
        }
        for (int bad : new int[] {-1, 2, Integer.MIN_VALUE, Integer.MAX_VALUE}) {
            Due.is("24: no such property", m.point(0, bad), BAD_VALUE);
        }
        Due.is("24: distance", m.point(0, 0), 12);
        Due.is("24: speed", m.point(0, 1), 34);
    }

    private static void totals() {
        DockingMonitor m = new DockingMonitor();
        for (int bad : new int[] {-1, 21, 13 + 8, Integer.MIN_VALUE, Integer.MIN_VALUE + 12,
            Integer.MIN_VALUE + 13, Integer.MAX_VALUE}) {
            Due.is("25: no such total", m.total(bad), BAD_VALUE);
        }
        Due.is("25: no next stop", m.total(5), NONE);
        m.addStop(500);
        m.addStop(9900);
        m.addStop(600);
        m.open(2);
        m.setPoint(5, 5);
        m.append('g');
        Due.is("25: next stop", m.total(5), 1);
        Due.is("25: points", m.total(6), 1);
        Due.is("25: stops", m.total(7), 3);
        Due.is("25: closed stops", m.total(8), 2);
        Due.is("25: states", m.total(9), 5);
        Due.is("25: text", m.total(10), 1);
        m.place(10000, 0, -700, 0);
        m.approach();
        m.pass(2);
        Due.is("25: retreats by judging", m.total(11), 1);
        m.approach();
        m.pass(1);
        m.retreat();
        Due.is("25: but not by calls", m.total(11), 1);
        m.undo();
        m.undo();
        m.undo();
        m.undo();
        Due.is("25: undone", m.total(11), 0);
        Due.is("25: seconds undone", m.total(1), 0);
    }

    public static void main(String[] args) {
        floatsOfTheShip();
        measuredBelowZero();
        cutNumbers();
        everySpeedAndDistance();
        tinyNumbers();
        greatNumbers();
        limits();
        limitsOfAFullProfile();
        judgements();
        driftJudgements();
        judgementOfAnArrivedShip();
        stopProperties();
        pointProperties();
        totals();
        Due.end();
    }
}
