/** Promises 16 to 18: undo, save, restore; and what a state holds. */
public final class HistoryPromises {
    private static final int BAD_INDEX = -1;
    private static final int NOT_POSSIBLE = -3;

    /** A monitor with nothing as at first; some six calls are recorded. */
    private static DockingMonitor rich() {
        DockingMonitor m = new DockingMonitor();
        for (int s = 0; s < 8; s++) {
            m.set(s, Plain.RANGES[s][0] + 9);
        }
        m.setPoint(700, 30);
        m.setPoint(300, 20);
        m.addStop(2900);
        m.addStop(2000);
        m.setBias(true, 3);
        m.setBias(false, 2);
        m.set(0, 200);
        m.place(2900, 10, -25, 1);
        m.open(1);
        m.pass(3);
        m.set(4, 500);
        m.approach();
        return m;
    }

    private static void changeAll(DockingMonitor m) {
        for (int s = 0; s < 8; s++) {
            m.set(s, Plain.RANGES[s][1]);
        }
        m.setPoint(300, 500);
        m.setPoint(100, 501);
        m.addStop(10);
        m.open(0);
        m.setBias(true, -40);
        m.setBias(false, -41);
        m.place(9900, 20000, -900, 33);
        m.approach();
        m.pass(20);
    }

    /** What look() tells, but for the number of states in the history. */
    private static String state(DockingMonitor m) {
        String all = Due.look(m);
        String[] words = all.split(" ");
        words[8 + 9] = "-";
        return String.join(" ", words);
    }

    private static void undoing() {
        DockingMonitor m = new DockingMonitor();
        Due.is("16: nothing to undo", m.undo(), NOT_POSSIBLE);
        String[] states = new String[9];
        for (int i = 0; i < 9; i++) {
            states[i] = state(m);
            Due.is("16: states kept", m.total(9), Math.min(i, 5));
            m.set(0, 100 + i);
        }
        for (int i = 0; i < 5; i++) {
            Due.is("16: states left", m.undo(), 4 - i);
            Due.same("16: back at " + (8 - i), state(m), states[8 - i]);
        }
        Due.is("16: only five", m.undo(), NOT_POSSIBLE);
        Due.same("16: an error changes nothing", state(m), states[4]);
        m.set(0, 100);
        Due.is("16: not recorded itself", m.undo(), 0);
    }

    private static void undoOfEachCall() {
        for (int call = 0; call < 11; call++) {
            DockingMonitor m = rich();
            Due.write(m, "t3;");
            m.save(1);
            String before = state(m);
            one(m, call);
            Due.is("16: still five after " + call, m.total(9), 5);
            Due.is("16: undo of " + call, m.undo(), 4);
            Due.same("16: undone " + call, state(m), before);
        }
    }

    private static void one(DockingMonitor m, int call) {
        switch (call) {
            case 0:
                m.place(500, 3, 4, 5);
                break;
            case 1:
                m.set(3, 3);
                break;
            case 2:
                m.setPoint(9, 9);
                break;
            case 3:
                m.addStop(99);
                break;
            case 4:
                m.setBias(true, 99);
                break;
            case 5:
                m.release();
                break;
            case 6:
                m.retreat();
                break;
            case 7:
                m.open(0);
                break;
            case 8:
                m.pass(50);
                break;
            case 9:
                m.run();
                break;
            default:
                m.restore(1);
                break;
        }
    }

    private static void recordedWhenNothingChanges() {
        DockingMonitor m = new DockingMonitor();
        m.set(0, 200);
        m.setBias(true, 0);
        m.run();
        Due.is("16: recorded though nothing became different", m.total(9), 3);
    }

    private static void notRecorded() {
        DockingMonitor n = new DockingMonitor();
        n.append('g');
        n.faultPosition();
        n.clearText();
        n.save(0);
        n.bits(0);
        n.thousandths(0);
        n.limit(5);
        n.judgement();
        n.stop(0, 0);
        n.point(0, 0);
        n.total(0);
        n.modeIn(5);
        n.secondsTo(1);
        n.closest(5);
        n.safeSpeed();
        Due.is("16: these are not recorded", n.total(9), 0);
    }

    private static void slots() {
        DockingMonitor m = rich();
        for (int bad : new int[] {-1, 2, Integer.MIN_VALUE, Integer.MAX_VALUE}) {
            Due.is("17: no such slot", m.save(bad), BAD_INDEX);
            Due.is("18: no such slot", m.restore(bad), BAD_INDEX);
        }
        String first = state(m);
        Due.is("18: empty", m.restore(0), NOT_POSSIBLE);
        Due.is("18: empty too", m.restore(1), NOT_POSSIBLE);
        Due.same("18: an error changes nothing", state(m), first);
        Due.is("17: the mode", m.save(0), 1);
        Due.is("18: the other stays empty", m.restore(1), NOT_POSSIBLE);
        changeAll(m);
        Due.is("17: mode behind all", m.total(0), 3);
        String second = state(m);
        Due.is("17: the other slot", m.save(1), 3);
        Due.is("18: the mode as it is then", m.restore(0), 1);
        Due.same("18: the first state", state(m), first);
        changeAll(m);
        Due.is("18: a slot stays as it is", m.restore(0), 1);
        Due.same("18: the first state again", state(m), first);
        Due.is("18: the second slot", m.restore(1), 3);
        Due.same("18: the second state", state(m), second);
        Due.is("18: recorded", m.undo(), 4);
        Due.same("18: undone", state(m), first);
        m.save(1);
        m.place(70, 0, 0, 0);
        m.restore(1);
        Due.same("17: in place of what it held", state(m), first);
    }

    private static void slotsAreNoState() {
        DockingMonitor m = new DockingMonitor();
        m.set(0, 33);
        m.save(0);
        m.undo();
        Due.is("16: undo leaves the slots", m.restore(0), 0);
        Due.is("18: its setting", m.total(13), 33);
        Due.is("18: the history is not restored", m.total(9), 1);
    }

    private static void countsComeBack() {
        DockingMonitor m = new DockingMonitor();
        m.set(4, 1);
        m.place(3000, 0, -700, 0);
        m.approach();
        m.pass(1);
        m.save(0);
        m.pass(3);
        m.save(1);
        Due.is("17: a judged retreat", m.total(11), 1);
        Due.is("17: a change of sensors", m.total(12), 1);
        m.place(9000, 0, 0, 0);
        m.restore(0);
        Due.is("18: strikes", m.total(2), 1);
        Due.is("18: agreements", m.total(3), 1);
        Due.is("18: sensor in use", m.total(4), 0);
        Due.is("18: retreats", m.total(11), 0);
        Due.is("18: changes", m.total(12), 0);
        Due.is("18: seconds", m.total(1), 1);
        m.restore(1);
        Due.is("18: no strikes", m.total(2), 0);
        Due.is("18: no agreements", m.total(3), 0);
        Due.is("18: near in use", m.total(4), 1);
        Due.is("18: a retreat", m.total(11), 1);
        Due.is("18: a change", m.total(12), 1);
        Due.is("18: later seconds", m.total(1), 4);
        m.undo();
        Due.is("16: strikes", m.total(2), 1);
        Due.is("16: agreements", m.total(3), 1);
    }

    private static void aHeldShipComesBack() {
        DockingMonitor m = new DockingMonitor();
        m.set(4, 1);
        m.place(6000, 0, 0, 0);
        m.retreat();
        m.pass(1);
        m.save(0);
        DockingMonitor n = new DockingMonitor();
        n.set(4, 1);
        n.place(6000, 0, 0, 0);
        n.retreat();
        n.pass(1);
        m.place(100, 0, 0, 0);
        m.addStop(100);
        m.approach();
        m.pass(1);
        Due.is("18: it holds elsewhere", m.stop(0, 2), 1);
        m.restore(0);
        m.pass(9);
        n.pass(9);
        Due.is("18: it holds where it held", m.bits(0), n.bits(0));
        m.undo();
        m.undo();
        Due.is("16: held again", m.stop(0, 2), 1);
    }

    public static void main(String[] args) {
        undoing();
        undoOfEachCall();
        recordedWhenNothingChanges();
        notRecorded();
        slots();
        slotsAreNoState();
        aHeldShipComesBack();
        countsComeBack();
        Due.end();
    }
}
