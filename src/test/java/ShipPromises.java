/** Promises 1 to 6: a new object, place, set, setPoint, addStop, setBias. */
public final class ShipPromises {
    private static final int BAD_INDEX = -1;
    private static final int BAD_VALUE = -2;
    private static final int NOT_POSSIBLE = -3;
    private static final int FULL = -4;
    private static final int NONE = -5;

    private static void newObject() {
        DockingMonitor m = new DockingMonitor();
        float[] ship = {100.0f, 0.0f, 0.0f, 0.0f, 100.0f, 0.5f, 100.0f, 100.0f};
        for (int i = 0; i < ship.length; i++) {
            Due.isFloat("1: bits(" + i + ")", m.bits(i), ship[i]);
        }
        int[] totals = {0, 0, 0, 0, 0, NONE, 0, 0, 0, 0, 0, 0, 0, 200, 50, 500, 1000, 50, 10, 30, 50};
        for (int i = 0; i < totals.length; i++) {
            Due.is("1: total(" + i + ")", m.total(i), totals[i]);
        }
        Due.is("1: judgement()", m.judgement(), 0);
        Due.is("1: undo()", m.undo(), NOT_POSSIBLE);
        Due.is("1: restore(0)", m.restore(0), NOT_POSSIBLE);
        Due.is("1: restore(1)", m.restore(1), NOT_POSSIBLE);
        Due.is("1: faultPosition()", m.faultPosition(), NONE);
        Due.is("1: clearText()", m.clearText(), 0);
        Due.is("1: stop(0, 0)", m.stop(0, 0), BAD_INDEX);
        Due.is("1: point(0, 0)", m.point(0, 0), BAD_INDEX);
    }

    private static void objectsAreApart() {
        DockingMonitor one = new DockingMonitor();
        DockingMonitor other = new DockingMonitor();
        String before = Due.look(other);
        one.place(500, 5, -5, 5);
        one.set(0, 10);
        one.setPoint(1, 1);
        one.addStop(1);
        one.setBias(true, 1);
        one.append('g');
        Due.same("1: another object stays as it is", Due.look(other), before);
        Due.same("1: a new one is as at first", Due.look(new DockingMonitor()), before);
    }

    private static void placeRanges() {
        int[][] good = {{1, 0, 0, 0}, {100000, 0, 0, 0}, {5000, -100000, 0, 0}, {5000, 100000, 0, 0},
            {5000, 0, -5000, 0}, {5000, 0, 5000, 0}, {5000, 0, 0, -5000}, {5000, 0, 0, 5000}};
        for (int[] g : good) {
            DockingMonitor m = new DockingMonitor();
            Due.is("2: an edge of place is taken", m.place(g[0], g[1], g[2], g[3]) >= 0 ? 1 : 0, 1);
            Due.isFloat("2: x", m.bits(0), g[0] / 100.0f);
            Due.isFloat("2: y", m.bits(1), g[1] / 100.0f);
            Due.isFloat("2: vx", m.bits(2), g[2] / 1000.0f);
            Due.isFloat("2: vy", m.bits(3), g[3] / 1000.0f);
            Due.is("2: recorded", m.total(9), 1);
        }
        int max = Integer.MAX_VALUE;
        int min = Integer.MIN_VALUE;
        int[][] bad = {{0, 0, 0, 0}, {-1, 0, 0, 0}, {100001, 0, 0, 0}, {max, 0, 0, 0}, {min, 0, 0, 0},
            {5, -100001, 0, 0}, {5, 100001, 0, 0}, {5, max, 0, 0}, {5, min, 0, 0}, {5, 0, -5001, 0},
            {5, 0, 5001, 0}, {5, 0, max, 0}, {5, 0, min, 0}, {5, 0, 0, -5001}, {5, 0, 0, 5001},
            {5, 0, 0, max}, {5, 0, 0, min}};
        for (int[] b : bad) {
            DockingMonitor m = new DockingMonitor();
            m.approach();
            String before = Due.look(m);
            Due.is("2: place out of range", m.place(b[0], b[1], b[2], b[3]), BAD_VALUE);
            Due.same("2: an error changes nothing", Due.look(m), before);
        }
    }

    private static void placeJudges() {
        Due.is("2: safe", new DockingMonitor().place(10000, 0, 0, 0), 0);
        Due.is("2: outside the corridor", new DockingMonitor().place(1000, 300, 0, -60), 1);
        Due.is("2: too fast", new DockingMonitor().place(10000, 0, -600, 0), 2);
        Due.is("2: its drift is unsafe", new DockingMonitor().place(1000, 0, -500, 0), 4);
        Due.is("2: all three", new DockingMonitor().place(400, 300, -600, 0), 7);
        DockingMonitor m = new DockingMonitor();
        m.set(0, 10);
        m.set(1, 0);
        Due.is("2: with the settings", m.place(10000, 101, 0, 0), 1);
        Due.is("2: on the edge", m.place(10000, 100, 0, 0), 0);
        Due.is("2: on the other edge", m.place(10000, -100, 0, 0), 0);
        Due.is("2: beyond the other edge", m.place(10000, -101, 0, 0), 1);
    }

    private static void placeResets() {
        DockingMonitor m = new DockingMonitor();
        m.place(2000, 0, -600, 0);
        m.addStop(1000);
        m.setPoint(500, 10);
        m.setBias(false, 3);
        m.approach();
        m.pass(1);
        Due.is("2: strikes ahead", m.total(2), 1);
        Due.is("2: agreements ahead", m.total(3), 1);
        m.place(2000, 0, 0, 0);
        Due.is("2: free", m.total(0), 0);
        Due.is("2: strikes", m.total(2), 0);
        Due.is("2: agreements", m.total(3), 0);
        Due.is("2: seconds stay", m.total(1), 1);
        m.pass(3);
        Due.is("2: near in use ahead", m.total(4), 1);
        m.place(2000, 0, 0, 0);
        Due.is("2: far in use", m.total(4), 0);
        Due.is("2: its change is not one in a second", m.total(12), 1);
        Due.is("2: stops stay", m.total(7), 1);
        Due.is("2: points stay", m.total(6), 1);
        Due.isFloat("2: biases stay", m.bits(6), 20.0f + 3 / 100.0f);
    }

    private static void placeEndsAHold() {
        DockingMonitor m = new DockingMonitor();
        m.addStop(1000);
        m.set(4, 40);
        m.place(1000, 0, 0, 0);
        m.approach();
        m.pass(1);
        Due.is("2: held ahead", m.stop(0, 2), 1);
        m.place(1000, 0, 0, 0);
        Due.is("2: held no more", m.stop(0, 2), 0);
        m.open(0);
        Due.is("2: opening lets it be free", m.total(0), 0);
    }

    private static void setRanges() {
        int[] first = {200, 50, 500, 1000, 50, 10, 30, 50};
        for (int s = 0; s < 8; s++) {
            DockingMonitor m = new DockingMonitor();
            int least = Plain.RANGES[s][0];
            int most = Plain.RANGES[s][1];
            Due.is("3: below " + s, m.set(s, least - 1), BAD_VALUE);
            Due.is("3: above " + s, m.set(s, most + 1), BAD_VALUE);
            Due.is("3: far below " + s, m.set(s, Integer.MIN_VALUE), BAD_VALUE);
            Due.is("3: far above " + s, m.set(s, Integer.MAX_VALUE), BAD_VALUE);
            Due.is("3: nothing recorded", m.total(9), 0);
            Due.is("3: unchanged", m.total(13 + s), first[s]);
            Due.is("3: least " + s, m.set(s, least), first[s]);
            Due.is("3: most " + s, m.set(s, most), least);
            Due.is("3: same again " + s, m.set(s, most), most);
            Due.is("3: it stands", m.total(13 + s), most);
            Due.is("3: recorded", m.total(9), 3);
            for (int other = 0; other < 8; other++) {
                if (other != s) {
                    Due.is("3: others stay", m.total(13 + other), first[other]);
                }
            }
        }
        DockingMonitor m = new DockingMonitor();
        for (int s : new int[] {-1, 8, Integer.MIN_VALUE, Integer.MAX_VALUE}) {
            Due.is("3: no such setting", m.set(s, 100), BAD_INDEX);
            Due.is("3: no such setting goes first", m.set(s, -7), BAD_INDEX);
        }
        Due.is("3: errors record nothing", m.total(9), 0);
    }

    private static void points() {
        DockingMonitor m = new DockingMonitor();
        int[][] bad = {{-1, 5}, {100001, 5}, {5, 0}, {5, 5001}, {5, -5}, {Integer.MIN_VALUE, 5},
            {Integer.MAX_VALUE, 5}, {5, Integer.MIN_VALUE}, {5, Integer.MAX_VALUE}};
        for (int[] b : bad) {
            Due.is("4: out of range", m.setPoint(b[0], b[1]), BAD_VALUE);
        }
        Due.is("4: errors record nothing", m.total(9), 0);
        int[] distances = {3000, 0, 100000, 1000, 2000, 500};
        for (int i = 0; i < 6; i++) {
            Due.is("4: number of points", m.setPoint(distances[i], i == 0 ? 1 : i == 1 ? 5000 : i), i + 1);
        }
        int[][] due = {{0, 5000}, {500, 5}, {1000, 3}, {2000, 4}, {3000, 1}, {100000, 2}};
        for (int i = 0; i < 6; i++) {
            Due.is("4: distance of " + i, m.point(i, 0), due[i][0]);
            Due.is("4: speed of " + i, m.point(i, 1), due[i][1]);
        }
        String before = Due.look(m);
        Due.is("4: a seventh", m.setPoint(1, 1), FULL);
        Due.is("4: a seventh at the end", m.setPoint(99999, 1), FULL);
        Due.is("4: a bad value goes first", m.setPoint(1, 0), BAD_VALUE);
        Due.same("4: an error changes nothing", Due.look(m), before);
        DockingMonitor full = new DockingMonitor();
        for (int i = 1; i <= 6; i++) {
            full.setPoint(i, i);
        }
        Due.is("4: a seventh behind all", full.setPoint(7, 7), FULL);
        Due.is("4: a seventh ahead of all", full.setPoint(0, 7), FULL);
        for (int i = 0; i < 6; i++) {
            Due.is("4: in place of one", m.setPoint(due[i][0], 70 + i), 6);
            Due.is("4: its speed", m.point(i, 1), 70 + i);
            Due.is("4: its distance", m.point(i, 0), due[i][0]);
        }
        m.undo();
        Due.is("4: recorded", m.point(5, 1), 2);
    }

    private static void stops() {
        DockingMonitor m = new DockingMonitor();
        for (int bad : new int[] {0, -1, 100001, Integer.MIN_VALUE, Integer.MAX_VALUE}) {
            Due.is("5: out of range", m.addStop(bad), BAD_VALUE);
        }
        Due.is("5: errors record nothing", m.total(9), 0);
        int[] distances = {1, 100000, 700, 700};
        for (int i = 0; i < 4; i++) {
            Due.is("5: its number", m.addStop(distances[i]), i);
            Due.is("5: its distance", m.stop(i, 0), distances[i]);
            Due.is("5: closed", m.stop(i, 1), 0);
            Due.is("5: not held", m.stop(i, 2), 0);
        }
        m.place(50000, 0, 0, 0);
        m.approach();
        Due.is("5: none is near", m.pass(1), 1);
        m.undo();
        m.undo();
        m.undo();
        Due.is("5: a fifth", m.addStop(5), FULL);
        Due.is("5: a bad value goes first", m.addStop(0), BAD_VALUE);
        Due.is("5: four stay", m.total(7), 4);
        m.addStop(5);
        Due.is("5: recorded", m.total(9), 2);
        m.open(3);
        m.undo();
        m.undo();
        Due.is("5: undone", m.total(7), 3);
        Due.is("5: added again", m.addStop(9), 3);
        Due.is("5: closed again", m.stop(3, 1), 0);
    }

    private static void stopAddedBehindAnUndoneOpening() {
        DockingMonitor m = new DockingMonitor();
        m.addStop(700);
        m.save(0);
        m.undo();
        m.addStop(800);
        m.open(0);
        m.undo();
        m.undo();
        Due.is("5: none", m.total(7), 0);
        m.addStop(900);
        Due.is("5: a new one is closed", m.stop(0, 1), 0);
        Due.is("5: and has its own distance", m.stop(0, 0), 900);
    }

    private static void biases() {
        DockingMonitor m = new DockingMonitor();
        for (int bad : new int[] {-501, 501, Integer.MIN_VALUE, Integer.MAX_VALUE}) {
            Due.is("6: near out of range", m.setBias(true, bad), BAD_VALUE);
            Due.is("6: far out of range", m.setBias(false, bad), BAD_VALUE);
        }
        Due.is("6: errors record nothing", m.total(9), 0);
        Due.is("6: far in use", m.setBias(false, 500), 1);
        Due.is("6: near not in use", m.setBias(true, -500), 0);
        Due.isFloat("6: far", m.bits(6), 105.0f);
        Due.isFloat("6: near", m.bits(7), 95.0f);
        Due.isFloat("6: measured", m.bits(4), 105.0f);
        Due.is("6: recorded", m.total(9), 2);
        m.setBias(false, -500);
        m.setBias(true, 500);
        Due.isFloat("6: far again", m.bits(6), 95.0f);
        Due.isFloat("6: near again", m.bits(7), 105.0f);
        m.setBias(false, 0);
        m.setBias(true, 20);
        m.place(2000, 0, 0, 0);
        m.pass(3);
        Due.is("6: near in use", m.setBias(true, 13), 1);
        Due.is("6: far not in use", m.setBias(false, 7), 0);
        Due.isFloat("6: near is measured", m.bits(4), 20.0f + 13 / 100.0f);
    }

    public static void main(String[] args) {
        newObject();
        objectsAreApart();
        placeRanges();
        placeJudges();
        placeResets();
        placeEndsAHold();
        setRanges();
        points();
        stops();
        stopAddedBehindAnUndoneOpening();
        biases();
        Due.end();
    }
}
