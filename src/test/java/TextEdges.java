/**
 * The boundary cases that the document's Terms name for the text, the history, the slots and the
 * errors. Each sentence is quoted ahead of its checks.
 */
public final class TextEdges {
    private static final int BAD_INDEX = -1;
    private static final int BAD_VALUE = -2;
    private static final int NOT_POSSIBLE = -3;
    private static final int FULL = -4;
    private static final int NONE = -5;

    private static int faultOf(String text) {
        DockingMonitor m = new DockingMonitor();
        Due.write(m, text);
        Due.is("the length of \"" + text + "\"", m.total(10), text.length());
        return m.faultPosition();
    }

    private static void good(String... texts) {
        for (String text : texts) {
            Due.is("the fault of \"" + text + "\"", faultOf(text), NONE);
        }
    }

    private static void faultAt(int due, String... texts) {
        for (String text : texts) {
            Due.is("the fault of \"" + text + "\"", faultOf(text), due);
        }
    }

    private static String times(int n, String part) {
        return part.repeat(n);
    }

    private static void form() {
        Ledger.says("The text has at most 80 bytes.");
        DockingMonitor m = new DockingMonitor();
        Due.write(m, times(39, "g;"));
        Due.is("the 79th", m.append('f'), 79);
        Due.is("the 80th", m.append(';'), 80);
        Due.is("an 81st", m.append('f'), FULL);
        Due.is("still 80", m.total(10), 80);
        Due.is("all 80 are told", m.faultPosition(), NONE);
        Due.is("and carried out", m.run(), 1);
        Ledger.says("It tells acts, perhaps none, each with a semicolon at its end: g (approaching)");
        good("", "g;", "f;", "b;", "o2;", "t7;", "g;g;", "f;b;o1;t5;g;", times(40, "b;"));
        faultAt(1, "gg", "f:", "b1", "g,");
        faultAt(0, ";", "G;", "a;", "c;", "e;", "h;", "n;", "p;", "s;", "u;", "1;", "~");
        faultAt(2, "g;;", "f;x", "b;G", "o1:", "o1o2", "t5t5;");
        faultAt(3, "o1;;", "t5;x");
        Ledger.namesNoEdge("o, a stop (opening it)", "t, seconds (they pass).");
        Ledger.says("A stop is from 0 to 3, seconds from 1 to 200.");
        good("o0;", "o1;", "o2;", "o3;", "t1;", "t2;", "t99;", "t100;", "t199;", "t200;");
        faultAt(1, "o4;", "o5;", "o9;", "t0;", "t201;", "t202;", "t299;", "t999;");
        Ledger.says("Each number has 1 to 3 digits, the first one not 0 unless it is the only one.");
        faultAt(1, "o;", "t;", "ox;", "tx;", "t/;", "t:;");
        faultAt(2, "o00;", "o01;", "o03;");
        faultAt(1, "t00;", "t01;", "t0200;");
        faultAt(4, "t1000;", "t2000;", "t1001;", "t1111");
        good("t10;", "t20;", "t101;");
        Ledger.says("There are no blanks.");
        faultAt(0, " ", " g;");
        faultAt(1, "g ;", "o 1;", "t 5;");
        faultAt(2, "g; f;", "g; ", "o1 ;", "t1 ;", "t1 0;");
    }

    private static void faultPositions() {
        Ledger.says("The fault position is the index, counted from 0, of the first byte with which the"
                + " text does not follow this form, or its length if it ends too early");
        faultAt(0, "x", "xg;", "0");
        faultAt(2, "g;x;y;");
        faultAt(1, "g", "o", "t", "gx", "o.");
        faultAt(2, "o0", "o3", "t1", "t9");
        faultAt(3, "t10", "t20", "g;f", "g;o");
        faultAt(4, "t100", "t200", "g;o1");
        String most = times(38, "g;");
        faultAt(80, most + "t200", most + "b;o3", most + "t10" + "0");
        faultAt(79, most + "t10", most + "g;o", most + "g;b", most + "g;o;");
        faultAt(79, most + "t10x", most + "g;gx");
        faultAt(78, most + "g;x;");
        Ledger.says("a number, that is, the digits that stand there, but three at most (0 alone, if the"
                + " first one is 0), that is out of its range is a fault at its first digit, whatever"
                + " follows it.");
        faultAt(1, "o4", "o9", "o4x", "o10", "o10;", "o100;", "o123;", "o99", "o39;", "o30", "o31x");
        faultAt(1, "t201", "t201;", "t201x", "t999", "t9999", "t300;", "t2010;", "t0", "t0x", "t00",
                "t01;", "t012");
        faultAt(2, "o0x", "o00", "o01", "o09;", "o3x", "t1x");
        faultAt(3, "t20x", "t20 ");
        faultAt(4, "t2000", "t2009;", "t1999;", "t100x", "t2001", "t1000");
        faultAt(3, "g;o4;x", "g;t201");
        faultAt(77, most + "t999", most + "t201", most + "o4");
    }

    private static void history() {
        Ledger.says("At most 5 states are kept");
        DockingMonitor m = new DockingMonitor();
        for (int i = 1; i <= 9; i++) {
            m.set(6, i);
            Due.is("kept", m.total(9), i < 5 ? i : 5);
        }
        for (int left = 4; left >= 0; left--) {
            Due.is("left", m.undo(), left);
        }
        Due.is("no sixth", m.undo(), NOT_POSSIBLE);
        Ledger.says("a state is all but the text, the history and the slots");
        m = Everything.rich();
        m.save(0);
        String before = Due.look(m);
        int states = m.total(9);
        changeEverything(m);
        m.append('x');
        m.save(1);
        m.restore(0);
        Due.is("the text is not", m.total(10), 5);
        Due.is("the history is not", m.total(9), 5);
        Due.is("another slot is not", m.restore(1), 1);
        m.clearText();
        Due.write(m, "g;t1");
        m.restore(0);
        Due.is("all states are kept", states, 5);
        Due.same("all else is", Due.look(m), before);
        countsAndHoldsAreOfTheState();
        recording();
        Ledger.says("when one more is recorded, the oldest is dropped");
        m = new DockingMonitor();
        for (int i = 1; i <= 6; i++) {
            m.set(6, i);
        }
        int[] due = {5, 4, 3, 2, 1};
        for (int setting : due) {
            m.undo();
            Due.is("the state ahead", m.total(19), setting);
        }
        Due.is("the first one is gone", m.undo(), NOT_POSSIBLE);
        for (int i = 11; i <= 18; i++) {
            m.set(6, i);
        }
        m.undo();
        m.undo();
        m.set(6, 60);
        m.undo();
        Due.is("recorded behind an undo", m.total(19), 16);
        Due.is("three are left", m.total(9), 3);
        Ledger.says("There are two slots, 0 and 1, empty at first.");
        m = new DockingMonitor();
        Due.is("slot 0", m.restore(0), NOT_POSSIBLE);
        Due.is("slot 1", m.restore(1), NOT_POSSIBLE);
        Due.is("slot 2", m.restore(2), BAD_INDEX);
        Due.is("slot -1", m.restore(-1), BAD_INDEX);
        Due.is("saved in 1", m.save(1), 0);
        Due.is("slot 0 is still empty", m.restore(0), NOT_POSSIBLE);
        Due.is("slot 1 is not", m.restore(1), 0);
    }

    private static void countsAndHoldsAreOfTheState() {
        DockingMonitor m = new DockingMonitor();
        m.place(2000, 0, -700, 0);
        m.approach();
        m.pass(1);
        m.save(0);
        m.pass(2);
        int[] ahead = {1, 1, 1, 1, 0};
        int[] behind = {3, 3, 0, 0, 1};
        for (int i = 0; i < 5; i++) {
            Due.is("total(" + i + ")", m.total(i), behind[i]);
        }
        Due.is("a judged retreat and a change of sensors", m.total(11) + m.total(12), 2);
        m.save(1);
        m.undo();
        for (int i = 0; i < 5; i++) {
            Due.is("undone, total(" + i + ")", m.total(i), ahead[i]);
        }
        Due.is("no judged retreat, no change of sensors", m.total(11) + m.total(12), 0);
        m.restore(1);
        Due.is("both again", m.total(11) * m.total(12), 1);
        m.restore(0);
        Due.is("the strike, the agreement", m.total(2) * m.total(3), 1);
        m.setPoint(700, 70);
        m.undo();
        m.setPoint(600, 60);
        m.save(0);
        m.undo();
        m.setPoint(500, 50);
        m.restore(0);
        Due.is("a point's distance", m.point(0, 0), 600);
        Due.is("a point's speed", m.point(0, 1), 60);
        m.undo();
        Due.is("the other's distance", m.point(0, 0), 500);
        aHoldIsOfTheState();
    }

    private static void aHoldIsOfTheState() {
        DockingMonitor m = new DockingMonitor();
        DockingMonitor other = new DockingMonitor();
        for (DockingMonitor one : new DockingMonitor[] {m, other}) {
            one.set(4, 1);
            one.place(6000, 0, 0, 0);
            one.retreat();
            Due.is("it holds", one.pass(1), 2);
        }
        m.save(1);
        m.addStop(100);
        m.place(100, 0, 0, 0);
        m.approach();
        Due.is("at a stop", m.pass(1) + m.stop(0, 2), 3);
        m.restore(1);
        m.pass(5);
        other.pass(5);
        Due.is("it holds where it held", m.bits(2), other.bits(2));
    }

    private static void recording() {
        Ledger.says("Each call of which it is said that it is recorded, and that reports no error,"
                + " records the state ahead of it (also if nothing becomes different)");
        DockingMonitor m = new DockingMonitor();
        m.set(0, 200);
        Due.is("the same value", m.total(9), 1);
        m.setBias(true, 0);
        Due.is("the same bias", m.total(9), 2);
        m.run();
        Due.is("no act", m.total(9), 3);
        m.place(10000, 0, 0, 0);
        Due.is("the same place", m.total(9), 4);
        m = new DockingMonitor();
        m.setPoint(100, 5);
        m.setPoint(100, 5);
        Due.is("the same point", m.total(9), 2);
        m.save(0);
        m.restore(0);
        Due.is("the same state", m.total(9), 3);
        Due.write(m, "f;");
        Due.is("the first act is refused", m.run(), 0);
        Due.is("the run is recorded", m.total(9), 4);
        m = new DockingMonitor();
        m.release();
        m.set(0, 9);
        m.set(8, 9);
        m.place(0, 0, 0, 0);
        m.setPoint(0, 0);
        m.addStop(0);
        m.setBias(true, 501);
        m.open(0);
        m.pass(0);
        m.restore(0);
        m.append('x');
        m.run();
        m.undo();
        Due.is("no error is recorded", m.total(9), 0);
    }

    private static void changeEverything(DockingMonitor m) {
        for (int s = 0; s < 8; s++) {
            m.set(s, Plain.RANGES[s][1]);
        }
        for (int i = 1; i <= 6; i++) {
            m.setPoint(500 * i, 200 + i);
        }
        m.open(0);
        m.setBias(true, -40);
        m.setBias(false, -41);
        m.place(9900, 20000, -900, 33);
        m.approach();
        m.pass(1);
    }

    private static void errors() {
        Ledger.says("Errors are reported by negative constants.");
        int[] constants = {DockingMonitor.BAD_INDEX, DockingMonitor.BAD_VALUE,
            DockingMonitor.NOT_POSSIBLE, DockingMonitor.FULL};
        for (int i = 0; i < 4; i++) {
            Due.is("a constant", constants[i], -1 - i);
        }
        Ledger.says("Where several can apply, the order of the @return line is the order of the checks.");
        DockingMonitor m = Everything.rich();
        Due.is("set", m.set(8, -1), BAD_INDEX);
        Due.is("setPoint", m.setPoint(1, 0), BAD_VALUE);
        Due.is("addStop", m.addStop(0), BAD_VALUE);
        Due.is("stop", m.stop(4, 3), BAD_INDEX);
        Due.is("point", m.point(6, 2), BAD_INDEX);
        Due.write(m, times(38, "g;"));
        Due.is("append", m.append(31), BAD_VALUE);
        Due.is("append to a full text", m.append(32), FULL);
        Due.is("restore", m.restore(2), BAD_INDEX);
        Due.is("open", m.open(4), BAD_INDEX);
        Ledger.says("NONE is not an error and is returned only if no error applies.");
        m = new DockingMonitor();
        Due.is("total without a next stop", m.total(5), NONE);
        Due.is("total out of range", m.total(21), BAD_VALUE);
        Due.is("secondsTo a mode that does not come", m.secondsTo(4), NONE);
        Due.is("secondsTo out of range", m.secondsTo(6), BAD_VALUE);
        Due.is("no fault", m.faultPosition(), NONE);
        m.place(1, 10000, 0, 0);
        m.set(2, 5000);
        m.place(1, 4000, 0, 0);
        Due.is("no safe speed", m.safeSpeed(), NONE);
        Ledger.says("A call that reports an error changes nothing.");
        DockingMonitor refused = Everything.rich();
        refused.save(1);
        refuseEverything(refused);
        DockingMonitor left = Everything.rich();
        left.save(1);
        Due.same("behind all errors", Everything.of(refused), Everything.of(left));
        Ledger.says("The constants: BAD_INDEX = -1: There is no such stop, point, setting or slot.");
        m = new DockingMonitor();
        int[] indexes = {m.open(0), m.stop(0, 0), m.point(0, 0), m.set(8, 50), m.save(2), m.restore(2)};
        for (int answer : indexes) {
            Due.is("no such", answer, -1);
        }
        Ledger.says("BAD_VALUE = -2: Another argument is out of range.");
        int[] values = {m.place(0, 0, 0, 0), m.set(0, 0), m.setPoint(0, 0), m.addStop(0),
            m.setBias(true, 501), m.pass(0), m.append(0), m.limit(-1), m.total(-1), m.modeIn(-1),
            m.secondsTo(-1), m.closest(-1)};
        for (int answer : values) {
            Due.is("out of range", answer, -2);
        }
        Ledger.says("NOT_POSSIBLE = -3: The call is not possible now.");
        m.append('x');
        int[] impossible = {m.release(), m.run(), m.undo(), m.restore(0)};
        for (int answer : impossible) {
            Due.is("not now", answer, -3);
        }
        Ledger.says("FULL = -4: There is no room.");
        m = Everything.rich();
        Due.is("no seventh point", m.setPoint(1, 1), -4);
        Due.is("no fifth stop", m.addStop(1), -4);
        Due.write(m, times(38, "g;"));
        Due.is("no 81st byte", m.append('g'), -4);
        Ledger.says("NONE = -5: There is no such thing");
        Due.is("no next stop", new DockingMonitor().total(5), -5);
        Ledger.namesNoEdge("not an error.");
    }

    private static void refuseEverything(DockingMonitor m) {
        int[] answers = {m.place(0, 0, 0, 0), m.place(5, 100001, 0, 0), m.place(5, 5, 5, 5001),
            m.set(-1, 0), m.set(8, 50), m.set(0, 9), m.set(6, 61), m.setPoint(-1, 1), m.setPoint(500, 0),
            m.setPoint(501, 1), m.addStop(0), m.addStop(1), m.setBias(true, 501), m.setBias(false, -501),
            m.approach(), m.open(-1), m.open(4), m.open(3), m.pass(0), m.pass(201), m.append(31),
            m.append(127), m.run(), m.save(-1), m.save(2), m.restore(-1), m.restore(2), m.restore(0),
            m.limit(-1), m.stop(4, 0), m.stop(0, 3), m.point(6, 0), m.point(0, 2), m.total(21),
            m.modeIn(501), m.secondsTo(6), m.closest(501)};
        for (int answer : answers) {
            Due.is("an error", answer < 0 && answer > NONE ? 1 : 0, 1);
        }
    }

    private static void calls() {
        Ledger.namesNoEdge("---- ship, settings, profile, stops, sensors.", "---- acts.",
                "---- the text.", "---- history and slots.", "---- looking.");
        Ledger.says("the interface says: ---- what could be, which changes nothing.");
        DockingMonitor asked = Everything.rich();
        asked.save(0);
        for (int i = 0; i <= 500; i += 50) {
            asked.modeIn(i);
            asked.closest(i);
        }
        for (int mode = 0; mode < 6; mode++) {
            asked.secondsTo(mode);
        }
        asked.safeSpeed();
        DockingMonitor left = Everything.rich();
        left.save(0);
        Due.same("behind the forecasts", Everything.of(asked), Everything.of(left));
    }

    public static void main(String[] args) {
        Ledger.openPart("The text. The text has", "## Promise 1:");
        form();
        faultPositions();
        history();
        errors();
        calls();
        Ledger.end();
    }
}
