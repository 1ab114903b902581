/** All that a monitor can tell, its history and its slots included; telling it uses the monitor up. */
final class Everything {
    private Everything() {
    }

    /** A monitor with five states, a text, and nothing as at first. */
    static DockingMonitor rich() {
        DockingMonitor m = new DockingMonitor();
        for (int s = 0; s < 8; s++) {
            m.set(s, Plain.RANGES[s][0] + 20);
        }
        for (int i = 1; i <= 6; i++) {
            m.setPoint(500 * i, 100 + i);
        }
        for (int i = 1; i <= 4; i++) {
            m.addStop(700 * i);
        }
        m.setBias(true, 3);
        m.setBias(false, 2);
        m.place(2900, 10, -25, 1);
        m.open(3);
        m.pass(3);
        m.approach();
        Due.write(m, "g;t1");
        return m;
    }

    static String of(DockingMonitor m) {
        StringBuilder all = new StringBuilder();
        state(m, all.append("now "));
        all.append("text ").append(m.clearText()).append('\n');
        for (int left = m.undo(); left >= 0; left = m.undo()) {
            state(m, all.append("ahead, ").append(left).append(" left "));
        }
        for (int slot = 0; slot < 2; slot++) {
            all.append("slot ").append(slot).append(' ').append(m.restore(slot)).append(' ');
            state(m, all);
        }
        return all.toString();
    }

    private static void state(DockingMonitor m, StringBuilder all) {
        all.append(Due.look(m)).append(" in");
        for (int seconds : new int[] {1, 20, 200, 500}) {
            all.append(' ').append(m.modeIn(seconds)).append(' ').append(m.closest(seconds));
        }
        all.append('\n');
    }
}
