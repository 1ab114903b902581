/** Promises 7 to 11: approach, release, retreat, open, pass; and what happens in a second. */
public final class ActPromises {
    private static final int BAD_INDEX = -1;
    private static final int BAD_VALUE = -2;
    private static final int NOT_POSSIBLE = -3;

    private static DockingMonitor placed(int x, int y, int vx, int vy) {
        DockingMonitor m = new DockingMonitor();
        m.place(x, y, vx, vy);
        return m;
    }

    private static DockingMonitor inMode(int mode) {
        DockingMonitor m = placed(mode == 5 ? 10 : 4, 0, mode < 4 ? 0 : mode == 4 ? -50 : -500, 0);
        if (mode > 3) {
            m.pass(1);
        } else {
            m.place(4000, 0, 0, 0);
        }
        if (mode == 1) {
            m.approach();
        }
        if (mode == 2) {
            m.set(4, 40);
            m.addStop(4000);
            m.approach();
            m.pass(1);
        }
        if (mode == 3) {
            m.retreat();
        }
        Due.is("mode " + mode + " is reached", m.total(0), mode);
        return m;
    }

    private static void modesOfActs() {
        int[] approachFrom = {1, 0, 1, 1, 0, 0};
        int[] releaseFrom = {0, 1, 1, 1, 0, 0};
        int[] retreatFrom = {1, 1, 1, 0, 0, 0};
        for (int mode = 0; mode < 6; mode++) {
            act("7: approach", mode, approachFrom[mode], 1);
            act("8: release", mode, releaseFrom[mode], 0);
            act("9: retreat", mode, retreatFrom[mode], 3);
        }
    }

    private static void act(String what, int from, int possible, int to) {
        DockingMonitor m = inMode(from);
        String before = Due.look(m);
        int states = m.total(9);
        int answer = to == 1 ? m.approach() : to == 0 ? m.release() : m.retreat();
        if (possible == 1) {
            Due.is(what + " from " + from, answer, m.judgement());
            Due.is(what + ": mode", m.total(0), to);
            Due.is(what + ": recorded", m.total(9), Math.min(5, states + 1));
            m.undo();
            Due.is(what + ": undone", m.total(0), from);
        } else {
            Due.is(what + " from " + from, answer, NOT_POSSIBLE);
            Due.same(what + ": an error changes nothing", Due.look(m), before);
        }
        if (from == 2 && possible == 1) {
            leaveAHold(to);
        }
    }

    private static void leaveAHold(int to) {
        DockingMonitor m = inMode(2);
        Due.is("held", m.stop(0, 2), 1);
        int answer = to == 1 ? m.approach() : to == 0 ? m.release() : m.retreat();
        Due.is("the judgement", answer, 0);
        Due.is("held no more", m.stop(0, 2), 0);
        m.open(0);
        Due.is("opening it leaves the mode", m.total(0), to);
    }

    private static void actsTellTheJudgement() {
        DockingMonitor m = placed(400, 300, -600, 0);
        Due.is("7: judgement 7", m.approach(), 7);
        Due.is("9: judgement 7", m.retreat(), 7);
        Due.is("8: judgement 7", m.release(), 7);
    }

    private static void strikesOfActs() {
        DockingMonitor m = placed(10000, 0, -700, 0);
        m.approach();
        m.pass(1);
        Due.is("7: one strike", m.total(2), 1);
        m.release();
        Due.is("8: strikes stay", m.total(2), 1);
        m.retreat();
        Due.is("9: strikes stay", m.total(2), 1);
        m.approach();
        Due.is("7: strikes become 0", m.total(2), 0);
        Due.is("7: retreats by calls are not counted", m.total(11), 0);
    }

    private static void opening() {
        DockingMonitor m = new DockingMonitor();
        Due.is("10: no stop", m.open(0), BAD_INDEX);
        m.addStop(1000);
        m.addStop(4000);
        m.addStop(500);
        for (int bad : new int[] {-1, 3, Integer.MIN_VALUE, Integer.MAX_VALUE}) {
            Due.is("10: no such stop", m.open(bad), BAD_INDEX);
        }
        m.set(4, 40);
        m.place(4000, 0, 0, 0);
        m.approach();
        m.pass(1);
        Due.is("10: held", m.stop(1, 2), 1);
        Due.is("10: not held", m.stop(0, 2), 0);
        Due.is("10: another one", m.open(0), 2);
        Due.is("10: the ship still holds", m.total(0), 2);
        Due.is("10: the held one", m.open(1), 1);
        Due.is("10: the ship approaches", m.total(0), 1);
        Due.is("10: held no more", m.stop(1, 2), 0);
        Due.is("10: open", m.stop(1, 1), 1);
        String before = Due.look(m);
        Due.is("10: open already", m.open(1), NOT_POSSIBLE);
        Due.same("10: an error changes nothing", Due.look(m), before);
        Due.is("10: the last", m.open(2), 0);
        m.undo();
        m.undo();
        Due.is("10: recorded", m.total(0), 2);
        Due.is("10: held again", m.stop(1, 2), 1);
    }

    private static void strikesAtAHold() {
        DockingMonitor m = new DockingMonitor();
        m.set(6, 1);
        m.set(4, 500);
        m.set(3, 0);
        m.setPoint(0, 30);
        m.addStop(5000);
        m.place(5024, 0, -560, 0);
        m.approach();
        m.pass(1);
        Due.is("10: a strike", m.total(2), 1);
        Due.is("10: not held yet", m.total(0), 1);
        m.pass(1);
        Due.is("10: held", m.stop(0, 2), 1);
        Due.is("10: the strikes stayed", m.total(2), 1);
        m.open(0);
        Due.is("10: they become 0", m.total(2), 0);
    }

    private static void passRanges() {
        DockingMonitor m = new DockingMonitor();
        for (int bad : new int[] {0, -1, 201, Integer.MIN_VALUE, Integer.MAX_VALUE}) {
            Due.is("11: out of range", m.pass(bad), BAD_VALUE);
        }
        Due.is("11: errors record nothing", m.total(9), 0);
        Due.is("11: free", m.pass(1), 0);
        Due.is("11: free still", m.pass(200), 0);
        Due.is("11: the seconds", m.total(1), 201);
        Due.is("11: recorded", m.total(9), 2);
        m.approach();
        Due.is("11: approaching", m.pass(2), 1);
        m.undo();
        Due.is("11: undone as one", m.total(1), 201);
    }

    private static void freeSeconds() {
        DockingMonitor m = placed(5000, 100, -123, 45);
        m.addStop(4988);
        m.pass(1);
        float x = 50.0f + -123 / 1000.0f;
        float y = 1.0f + 45 / 1000.0f;
        Due.isFloat("11: x of a free ship", m.bits(0), x);
        Due.isFloat("11: y of a free ship", m.bits(1), y);
        Due.isFloat("11: vx stays", m.bits(2), -123 / 1000.0f);
        Due.isFloat("11: vy stays", m.bits(3), 45 / 1000.0f);
        m.place(4988, 0, 0, 0);
        m.pass(5);
        Due.is("11: a free ship does not hold", m.total(0), 0);
        m.place(400, 300, -600, 0);
        m.pass(3);
        Due.is("11: a free ship gets no strikes", m.total(2), 0);
        Due.is("11: nor retreats", m.total(0), 0);
        m.pass(200);
        Due.is("11: but it arrives", m.total(0), 5);
    }

    private static void guidanceOfApproach() {
        DockingMonitor m = placed(6000, 100, 0, 0);
        m.approach();
        m.pass(1);
        float a = 50 / 1000.0f;
        Due.isFloat("11: vx", m.bits(2), -a);
        Due.isFloat("11: x", m.bits(0), 60.0f + -a);
        Due.isFloat("11: vy", m.bits(3), -a);
        Due.isFloat("11: y", m.bits(1), 1.0f + -a);
        m = placed(6000, -100, -480, 0);
        m.set(4, 500);
        m.approach();
        m.pass(1);
        float ax = -0.5f - -480 / 1000.0f;
        float vx = -480 / 1000.0f + ax;
        float ay = 0.0f - -1.0f * 0.05f - 0.0f;
        Due.isFloat("11: vx to the limit", m.bits(2), vx);
        Due.isFloat("11: vy to the middle", m.bits(3), 0.0f + ay);
        m = placed(6000, 0, 0, 300);
        m.approach();
        m.pass(1);
        Due.isFloat("11: ay is held from below", m.bits(3), 300 / 1000.0f + -a);
        m = placed(6000, 0, -1000, -300);
        m.approach();
        m.pass(1);
        Due.isFloat("11: ay is held from above", m.bits(3), -300 / 1000.0f + a);
        Due.isFloat("11: ax is held from above", m.bits(2), -1.0f + a);
    }

    private static void guidanceUsesTheMeasuredDistance() {
        DockingMonitor m = new DockingMonitor();
        m.set(4, 500);
        m.setPoint(5000, 100);
        m.setPoint(5500, 600);
        m.setBias(false, 100);
        m.place(5000, 0, 0, 0);
        m.approach();
        float p = 5000 / 100.0f;
        float q = 5500 / 100.0f;
        float s = 100 / 1000.0f;
        float t = 600 / 1000.0f;
        float measured = 50.0f + 100 / 100.0f;
        float wanted = -(s + (t - s) * ((measured - p) / (q - p)));
        m.pass(1);
        Due.isFloat("11: the limit at m", m.bits(2), 0.0f + (wanted - 0.0f));
        m.place(5000, 0, 0, 0);
        m.retreat();
        m.pass(1);
        Due.isFloat("11: retreating by the limit at m", m.bits(2), 0.0f + (-wanted - 0.0f));
        m.place(5500, 0, 0, 0);
        m.setBias(false, -100);
        m.retreat();
        m.pass(1);
        measured = 55.0f + -100 / 100.0f;
        Due.isFloat("11: retreating too", m.bits(2), s + (t - s) * ((measured - p) / (q - p)));
    }

    private static void guidanceOfStops() {
        DockingMonitor m = new DockingMonitor();
        m.set(4, 500);
        m.addStop(5000);
        m.place(5300, 0, 0, 0);
        m.approach();
        m.pass(1);
        Due.isFloat("11: slowing to a stop", m.bits(2), 0.0f - (53.0f - 50.0f) * 0.1f);
        m.place(5600, 0, 0, 0);
        m.approach();
        m.pass(1);
        Due.isFloat("11: the limit is slower", m.bits(2), -0.5f);
        m.setBias(false, 200);
        m.place(5300, 0, 0, 0);
        m.approach();
        m.pass(1);
        Due.isFloat("11: from x and not from m", m.bits(2), 0.0f - (53.0f - 50.0f) * 0.1f);
        m.open(0);
        m.place(5300, 0, 0, 0);
        m.approach();
        m.pass(1);
        Due.isFloat("11: an open stop is none", m.bits(2), -0.5f);
    }

    private static void nextStops() {
        DockingMonitor m = new DockingMonitor();
        m.addStop(3000);
        m.addStop(4000);
        m.addStop(4000);
        m.addStop(9000);
        m.place(5000, 0, 0, 0);
        Due.is("25: the greatest below", m.total(5), 1);
        m.place(4000, 0, 0, 0);
        Due.is("25: less than x", m.total(5), 0);
        m.place(4001, 0, 0, 0);
        Due.is("25: just less", m.total(5), 1);
        m.open(1);
        Due.is("25: the other of two", m.total(5), 2);
        m.open(2);
        Due.is("25: the one that is left", m.total(5), 0);
        m.place(9000, 0, 0, 0);
        Due.is("25: not the one at x", m.total(5), 0);
        m.place(9001, 0, 0, 0);
        Due.is("25: the last one", m.total(5), 3);
        m.place(3000, 0, 0, 0);
        Due.is("25: none", m.total(5), -5);
    }

    private static void plume() {
        DockingMonitor m = new DockingMonitor();
        m.place(1000, 0, -100, 0);
        m.retreat();
        m.pass(1);
        float b = -100 / 1000.0f;
        Due.isFloat("11: not less than the plume distance", m.bits(2), b + 50 / 1000.0f);
        m.place(999, 0, -100, 0);
        m.retreat();
        m.pass(1);
        Due.isFloat("11: in the plume", m.bits(2), b + 10 / 1000.0f);
        m.place(999, 0, 0, 0);
        m.approach();
        m.pass(1);
        Due.isFloat("11: the other way is free", m.bits(2), 0.0f + -(50 / 1000.0f));
        m.set(5, 60);
        m.place(999, 0, -100, 0);
        m.retreat();
        m.pass(1);
        Due.isFloat("11: it is only a bound", m.bits(2), b + 50 / 1000.0f);
        m.set(5, 0);
        m.place(999, 0, -100, 0);
        m.retreat();
        m.pass(1);
        Due.isFloat("11: no braking at all", m.bits(2), b + 0.0f);
        m.set(3, 0);
        m.place(999, 0, -100, 0);
        m.retreat();
        m.pass(1);
        Due.isFloat("11: no plume distance", m.bits(2), b + 50 / 1000.0f);
    }

    private static void arriving() {
        arrival("docks at the speed", 5, 0, -50, 4);
        arrival("crashes above the speed", 5, 0, -51, 5);
        arrival("docks at the margin", 5, 50, -50, 4);
        arrival("docks at the other margin", 5, -50, -50, 4);
        arrival("crashes beyond the margin", 5, 51, -50, 5);
        arrival("crashes beyond the other margin", 5, -51, -50, 5);
        DockingMonitor m = placed(5, 0, -49, 0);
        Due.is("11: not there yet", m.pass(1), 0);
        Due.isFloat("11: a millimetre away", m.bits(0), 5 / 100.0f + -49 / 1000.0f);
        m = placed(5, 20, -50, 10);
        m.pass(1);
        for (int i = 0; i < 4; i++) {
            Due.isFloat("11: arrived, " + i, m.bits(i), i == 1 ? 20 / 100.0f + 10 / 1000.0f : 0.0f);
        }
        Due.is("11: agreements at arrival", m.total(3), 0);
        String before = Due.look(m);
        Due.is("11: docked stays", m.pass(7), 4);
        Due.is("11: seconds pass", m.total(1), 8);
        m.undo();
        Due.same("11: but for them nothing happens", Due.look(m), before);
        m = new DockingMonitor();
        m.set(1, 10);
        m.set(7, 500);
        m.place(5, 11, -500, 0);
        Due.is("11: margin and docking speed are settings", m.pass(1), 5);
        m.place(5, 10, -500, 0);
        Due.is("11: both are met", m.pass(1), 4);
        m.place(5, 0, -501, 0);
        Due.is("11: faster", m.pass(1), 5);
    }

    private static void arrival(String what, int x, int y, int vx, int mode) {
        DockingMonitor m = placed(x, y, vx, 0);
        Due.is("11: " + what, m.pass(1), mode);
        Due.is("11: its second counts", m.total(1), 1);
    }

    private static void theSecondEndsAtArrival() {
        DockingMonitor m = new DockingMonitor();
        m.place(29, 0, -100, 0);
        m.pass(2);
        Due.is("11: agreements", m.total(3), 2);
        m.pass(1);
        Due.is("11: crashed", m.total(0), 5);
        Due.is("11: the sensors are not compared", m.total(3), 2);
        Due.is("11: nor changed", m.total(4), 0);
        m.pass(1);
        Due.is("11: nor later", m.total(3), 2);
    }

    private static void sensors() {
        DockingMonitor m = placed(3000, 0, 0, 0);
        int[] agreements = {1, 2, 0, 0};
        for (int i = 0; i < 4; i++) {
            Due.is("11: near in use ahead of " + i, m.total(4), i < 3 ? 0 : 1);
            m.pass(1);
            Due.is("11: agreements", m.total(3), agreements[i]);
        }
        Due.is("11: one change", m.total(12), 1);
        m = placed(3001, 0, 0, 0);
        m.pass(5);
        Due.is("11: the near one does not see it", m.total(4), 0);
        Due.is("11: no agreements", m.total(3), 0);
        m = placed(2900, 0, 500, 0);
        m.pass(2);
        Due.is("11: two agreements", m.total(3), 2);
        m.pass(1);
        Due.is("11: lost", m.total(3), 0);
        Due.is("11: no change", m.total(12), 0);
        m = placed(2800, 0, 500, 0);
        m.pass(3);
        Due.is("11: near in use", m.total(4), 1);
        m.pass(1);
        Due.isFloat("11: at 30", m.bits(0), 30.0f);
        Due.is("11: seen up to 30", m.total(4), 1);
        m.pass(1);
        Due.is("11: far in use again", m.total(4), 0);
        Due.is("11: two changes", m.total(12), 2);
        m.pass(1);
        Due.is("11: no third", m.total(12), 2);
    }

    private static void sensorDifference() {
        DockingMonitor m = new DockingMonitor();
        m.setBias(true, 50);
        m.place(2000, 0, 0, 0);
        m.pass(1);
        Due.is("11: 0.5 is not less", m.total(3), 0);
        m.setBias(true, -50);
        m.pass(1);
        Due.is("11: nor the other way", m.total(3), 0);
        m.setBias(true, 49);
        m.pass(1);
        Due.is("11: 0.49 agrees", m.total(3), 1);
        m.setBias(true, -49);
        m.pass(1);
        Due.is("11: and the other way", m.total(3), 2);
        m.setBias(true, 500);
        m.setBias(false, 460);
        m.pass(1);
        Due.is("11: it is a difference", m.total(4), 1);
        m.setBias(true, -500);
        m.pass(4);
        Due.is("11: the near one stays in use", m.total(4), 1);
        Due.is("11: and no agreements are counted", m.total(3), 0);
    }

    private static void stopping() {
        standing("0.19 above a stop", 39, 20, 2);
        standing("0.2 above a stop", 40, 20, 1);
        standing("0.19 below a stop", 20, 39, 2);
        standing("0.2 below a stop", 20, 40, 1);
        moving("at 0.049", 49, -49, 2);
        moving("at 0.05", 50, -50, 1);
        DockingMonitor m = new DockingMonitor();
        m.addStop(5000);
        m.set(4, 1);
        m.place(4995, 0, 60, 0);
        m.approach();
        m.pass(1);
        Due.is("11: the size of vx", m.total(0), 1);
        m = new DockingMonitor();
        m.addStop(5010);
        m.addStop(5000);
        m.addStop(5000);
        m.set(4, 1);
        m.place(5000, 0, 0, 0);
        m.open(0);
        m.approach();
        m.pass(1);
        Due.is("11: an open one is not held", m.stop(0, 2), 0);
        Due.is("11: of several the smallest number", m.stop(1, 2), 1);
        Due.is("11: one alone", m.stop(2, 2), 0);
        m.open(1);
        m.pass(1);
        Due.is("11: the next closed one", m.stop(2, 2), 1);
    }

    /** A braking of just its speed makes the ship stand still at its place in the first second. */
    private static void standing(String what, int x, int stop, int mode) {
        DockingMonitor m = new DockingMonitor();
        m.addStop(stop);
        m.set(4, 1);
        m.place(x, 0, 1, 0);
        m.approach();
        m.pass(1);
        Due.isFloat("11: standing " + what, m.bits(0), x / 100.0f);
        Due.is("11: standing " + what, m.total(0), mode);
        Due.is("11: held " + what, m.stop(0, 2), mode == 2 ? 1 : 0);
    }

    /** A ship below its stop keeps the speed that is its limit. */
    private static void moving(String what, int limit, int vx, int mode) {
        DockingMonitor m = new DockingMonitor();
        m.addStop(5000);
        m.setPoint(0, limit);
        m.place(4990, 0, vx, 0);
        m.approach();
        m.pass(1);
        Due.isFloat("11: moving " + what, m.bits(2), vx / 1000.0f);
        Due.is("11: moving " + what, m.total(0), mode);
    }

    private static void holding() {
        DockingMonitor m = new DockingMonitor();
        m.addStop(5000);
        m.set(4, 40);
        m.place(5010, 0, 0, 0);
        m.approach();
        m.pass(1);
        Due.is("11: holds", m.total(0), 2);
        float x = Float.intBitsToFloat(m.bits(0));
        float vx = Float.intBitsToFloat(m.bits(2));
        m.setBias(false, 300);
        m.pass(1);
        float ax = (50.0f - x) * 0.1f - vx;
        vx = vx + ax;
        Due.isFloat("11: to the stop", m.bits(2), vx);
        Due.isFloat("11: x", m.bits(0), x + vx);
    }

    private static void holdsAreNotJudged() {
        DockingMonitor m = new DockingMonitor();
        m.addStop(1000);
        m.set(0, 10);
        m.set(1, 0);
        m.set(4, 1);
        m.place(1000, 300, 0, 0);
        m.approach();
        m.pass(1);
        Due.is("11: step 5 goes ahead of step 6", m.total(0), 2);
        Due.is("11: no strike", m.total(2), 0);
        m.pass(5);
        Due.is("11: a held ship is not judged", m.total(2), 0);
        Due.is("11: it holds", m.total(0), 2);
    }

    private static void strikes() {
        DockingMonitor m = placed(10000, 0, -700, 0);
        m.approach();
        Due.is("11: one strike", m.pass(1), 1);
        Due.is("11: counted", m.total(2), 1);
        Due.is("11: two strikes", m.pass(1), 3);
        Due.is("11: none left", m.total(2), 0);
        Due.is("11: a judged retreat", m.total(11), 1);
        m = placed(10000, 0, -580, 0);
        m.approach();
        m.pass(1);
        Due.is("11: a strike", m.total(2), 1);
        m.pass(1);
        Due.is("11: safe again", m.total(2), 0);
        Due.is("11: approaching", m.total(0), 1);
        m = placed(10000, 5000, 0, 0);
        m.set(6, 1);
        m.approach();
        Due.is("11: outside", m.pass(2), 3);
        m = placed(600, 0, -300, 0);
        m.set(7, 500);
        m.approach();
        Due.is("11: by its drift", m.judgement(), 4);
        Due.is("11: retreats", m.pass(2), 3);
    }

    private static void retreatEnds() {
        DockingMonitor m = placed(5000, 0, 0, 0);
        m.set(4, 1);
        m.retreat();
        float x = 50.0f + 1 / 1000.0f;
        Due.is("11: beyond 50", m.pass(1), 2);
        Due.isFloat("11: where it is", m.bits(0), x);
        m.addStop(5000);
        Due.is("11: no stop is held", m.stop(0, 2), 0);
        m.pass(1);
        float vx = 1 / 1000.0f;
        float ax = (x - x) * 0.1f - vx;
        float most = 1 / 1000.0f;
        ax = ax < -most ? -most : ax;
        Due.isFloat("11: holds at the distance that it had", m.bits(2), vx + ax);
        m.open(0);
        Due.is("11: opening another leaves it holding", m.total(0), 2);
        m = placed(6000, 2000, 0, 0);
        m.retreat();
        Due.is("11: judged unsafe", m.pass(1), 3);
        Due.is("11: no strikes in a retreat", m.total(2), 0);
    }

    private static void exactFifty() {
        DockingMonitor m = new DockingMonitor();
        m.setPoint(0, 500);
        m.place(4950, 0, 500, 0);
        m.retreat();
        m.pass(1);
        Due.isFloat("11: at 50", m.bits(0), 50.0f);
        Due.is("11: it retreats on", m.total(0), 3);
        m.pass(1);
        Due.is("11: and holds then", m.total(0), 2);
    }

    public static void main(String[] args) {
        modesOfActs();
        actsTellTheJudgement();
        strikesOfActs();
        opening();
        strikesAtAHold();
        passRanges();
        freeSeconds();
        guidanceOfApproach();
        guidanceUsesTheMeasuredDistance();
        guidanceOfStops();
        nextStops();
        plume();
        arriving();
        theSecondEndsAtArrival();
        sensors();
        sensorDifference();
        stopping();
        holding();
        holdsAreNotJudged();
        strikes();
        retreatEnds();
        exactFifty();
        Due.end();
    }
}
