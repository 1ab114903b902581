/** Promises 12 to 15: append, clearText, faultPosition, run. */
public final class TextPromises {
    private static final int BAD_VALUE = -2;
    private static final int NOT_POSSIBLE = -3;
    private static final int FULL = -4;
    private static final int NONE = -5;

    private static void appending() {
        DockingMonitor m = new DockingMonitor();
        for (int bad : new int[] {31, 127, 0, -1, 256 + 'g', 65536 + 'g', Integer.MIN_VALUE,
            Integer.MAX_VALUE}) {
            Due.is("12: out of range", m.append(bad), BAD_VALUE);
        }
        Due.is("12: nothing appended", m.total(10), 0);
        Due.is("12: the least", m.append(32), 1);
        Due.is("12: the greatest", m.append(126), 2);
        for (int i = 3; i <= 80; i++) {
            Due.is("12: the length", m.append('g'), i);
        }
        Due.is("12: an 81st", m.append('g'), FULL);
        Due.is("12: a bad value goes first", m.append(31), BAD_VALUE);
        Due.is("12: the length stays", m.total(10), 80);
        Due.is("12: not recorded", m.total(9), 0);
        Due.is("13: clearing", m.clearText(), 80);
        Due.is("13: empty", m.total(10), 0);
        Due.is("13: clearing again", m.clearText(), 0);
        Due.is("13: not recorded", m.total(9), 0);
        Due.is("12: from the beginning", m.append('x'), 1);
        Due.is("14: the old text is gone", m.faultPosition(), 0);
    }

    private static void textIsNoState() {
        DockingMonitor m = new DockingMonitor();
        m.set(0, 11);
        Due.write(m, "g;t");
        m.save(0);
        m.undo();
        Due.is("16: undo leaves the text", m.total(10), 3);
        m.clearText();
        m.restore(0);
        Due.is("18: restore leaves the text", m.total(10), 0);
    }

    private static void fault(String text, int due) {
        DockingMonitor m = new DockingMonitor();
        Due.write(m, text);
        String before = Due.look(m);
        Due.is("14: fault of \"" + text + "\"", m.faultPosition(), due);
        if (due != NONE) {
            Due.is("15: run of \"" + text + "\"", m.run(), NOT_POSSIBLE);
            Due.same("15: an error changes nothing", Due.look(m), before);
        }
        Due.is("14: the text stays", m.total(10), text.length());
    }

    private static void faults() {
        String[] good = {"", "g;", "f;", "b;", "o0;", "o1;", "o2;", "o3;", "t1;", "t9;", "t10;", "t99;",
            "t100;", "t199;", "t200;", "g;f;b;o0;t1;", "t1;t1;"};
        for (String text : good) {
            fault(text, NONE);
        }
        String[] endsTooEarly = {"g", "f", "b", "o", "t", "o0", "o3", "t1", "t20", "t200", "g;g", "g;t19"};
        for (String text : endsTooEarly) {
            fault(text, text.length());
        }
        String[] atFirst = {"x", " ", ";", "0", "1;", "G;", "e;", "h;", "~", "a", "c;", "n1;", "p1;",
            "s1;", "u1;", " g;"};
        for (String text : atFirst) {
            fault(text, 0);
        }
        String[] atOne = {"gg", "g g", "g ;", "f1;", "b0;", "o;", "t;", "ox", "t x", "t ", "t0", "t0;",
            "t00", "t01;", "t201", "t201;", "t999", "t300x", "t9999", "o4", "o4;", "o9", "o10", "o10;",
            "o12", "o99", "o100;", "o39x", "t-1;", "t+1;", "t/;", "t:;", "o/", "o:"};
        for (String text : atOne) {
            fault(text, 1);
        }
        fault("o00;", 2);
        fault("o01;", 2);
        fault("o0x", 2);
        fault("o3x", 2);
        fault("o3 ;", 2);
        fault("o1;;", 3);
        fault("t1x", 2);
        fault("t1 ;", 2);
        fault("t12/", 3);
        fault("t12:", 3);
        fault("t1000;", 4);
        fault("t1999", 4);
        fault("t2000", 4);
        fault("t2001", 4);
        fault("t200x", 4);
        fault("g;x", 2);
        fault("g; f;", 2);
        fault("t200;o4;", 6);
        fault("t200;o3;t0;", 9);
    }

    private static void faultAtTheEndOfAFullText() {
        StringBuilder text = new StringBuilder();
        for (int i = 0; i < 20; i++) {
            text.append("t10;");
        }
        fault(text.toString(), NONE);
        text.setLength(79);
        fault(text.toString(), 79);
        text.setLength(76);
        text.append("t100");
        fault(text.toString(), 80);
        text.setLength(76);
        text.append("t999");
        fault(text.toString(), 77);
        text.setLength(78);
        text.append("g;");
        fault(text.toString(), 78);
        text.setLength(76);
        text.append("g;o");
        fault(text.toString(), 79);
        text.append("2");
        fault(text.toString(), 80);
    }

    private static void running() {
        DockingMonitor m = new DockingMonitor();
        m.addStop(9000);
        m.addStop(8000);
        Due.write(m, "g;t2;o1;b;t3;f;t10;");
        DockingMonitor other = new DockingMonitor();
        other.addStop(9000);
        other.addStop(8000);
        Due.is("15: all acts", m.run(), 7);
        other.approach();
        other.pass(2);
        other.open(1);
        other.retreat();
        other.pass(3);
        other.release();
        other.pass(10);
        for (int i = 0; i < 4; i++) {
            Due.is("15: as by the calls", m.bits(i), other.bits(i));
        }
        Due.is("15: seconds", m.total(1), 15);
        Due.is("15: mode", m.total(0), 0);
        Due.is("15: opened", m.stop(1, 1), 1);
        Due.is("15: the other one", m.stop(0, 1), 0);
        Due.is("15: the text stays", m.total(10), 19);
        Due.is("15: recorded as one call", m.total(9), 3);
        Due.is("16: undone as one", m.undo(), 2);
        Due.is("16: seconds", m.total(1), 0);
        Due.is("16: closed again", m.stop(1, 1), 0);
        Due.is("15: run again", m.run(), 7);
    }

    private static void runs(String text, int due, int mode, int seconds) {
        DockingMonitor m = new DockingMonitor();
        m.addStop(5000);
        Due.write(m, text);
        Due.is("15: run of \"" + text + "\"", m.run(), due);
        Due.is("15: mode behind \"" + text + "\"", m.total(0), mode);
        Due.is("15: seconds behind \"" + text + "\"", m.total(1), seconds);
        Due.is("15: recorded \"" + text + "\"", m.total(9), 2);
        m.undo();
        Due.is("15: undone", m.total(0), 0);
    }

    private static void runsThatEnd() {
        runs("", 0, 0, 0);
        runs("f;", 0, 0, 0);
        runs("f;g;t9;", 0, 0, 0);
        runs("g;g;t9;", 1, 1, 0);
        runs("g;f;f;t9;", 2, 0, 0);
        runs("b;b;t9;", 1, 3, 0);
        runs("o1;t9;", 0, 0, 0);
        runs("t1;o3;t9;", 1, 0, 1);
        runs("o0;o0;t9;", 1, 0, 0);
        runs("o0;g;t3;o0;t9;", 3, 1, 3);
        runs("g;t1;b;t4;", 4, 2, 5);
    }

    private static void runInTheEndModes() {
        DockingMonitor m = new DockingMonitor();
        m.place(5, 0, -50, 0);
        m.addStop(100);
        Due.write(m, "t1;o0;t2;g;t5;");
        Due.is("15: docked ships open stops, but don't approach", m.run(), 3);
        Due.is("15: docked", m.total(0), 4);
        Due.is("15: opened", m.stop(0, 1), 1);
        Due.is("15: seconds", m.total(1), 3);
    }

    public static void main(String[] args) {
        appending();
        textIsNoState();
        faults();
        faultAtTheEndOfAFullText();
        running();
        runsThatEnd();
        runInTheEndModes();
        Due.end();
    }
}
