/** The boundary cases that the promises 1 to 18 name. Each sentence is quoted ahead of its checks. */
public final class CallEdges {
    private static final int BAD_INDEX = -1;
    private static final int BAD_VALUE = -2;
    private static final int NOT_POSSIBLE = -3;
    private static final int FULL = -4;
    private static final int NONE = -5;
    private static final int MIN = Integer.MIN_VALUE;
    private static final int MAX = Integer.MAX_VALUE;

    private static DockingMonitor placed(int x, int y, int vx, int vy) {
        DockingMonitor m = new DockingMonitor();
        m.place(x, y, vx, vy);
        return m;
    }

    private static DockingMonitor withText(String text) {
        DockingMonitor m = new DockingMonitor();
        Due.write(m, text);
        return m;
    }

    /** A ship in a mode; where it holds, it holds at stop 0. */
    private static DockingMonitor inMode(int mode) {
        DockingMonitor m = new DockingMonitor();
        if (mode > 3) {
            m.place(5, 0, mode == 4 ? -50 : -60, 0);
            m.pass(1);
        }
        if (mode == 1 || mode == 2) {
            m.addStop(mode == 2 ? 10000 : 50);
            m.set(4, 40);
            m.approach();
            m.pass(1);
        }
        if (mode == 3) {
            m.retreat();
        }
        Due.is("the mode " + mode + " is reached", m.total(0), mode);
        return m;
    }

    private static void newObject() {
        Ledger.says("DockingMonitor(): Creates a monitor with everything as at first");
        DockingMonitor used = Everything.rich();
        DockingMonitor m = new DockingMonitor();
        int[] totals = {0, 0, 0, 0, 0, NONE, 0, 0, 0, 0, 0, 0, 0, 200, 50, 500, 1000, 50, 10, 30, 50};
        for (int i = 0; i < totals.length; i++) {
            Due.is("total(" + i + ")", m.total(i), totals[i]);
        }
        Due.isFloat("x", m.bits(0), 100.0f);
        Due.is("the used one keeps its own", used.total(7), 4);
        Ledger.says("the text, the history and the slots are empty.");
        Due.is("no text", m.clearText(), 0);
        Due.is("no state", m.undo(), NOT_POSSIBLE);
        Due.is("no slot 0", m.restore(0), NOT_POSSIBLE);
        Due.is("no slot 1", m.restore(1), NOT_POSSIBLE);
    }

    private static void placing() {
        Ledger.says("Places the ship, which is free then");
        for (int mode = 0; mode < 6; mode++) {
            DockingMonitor m = inMode(mode);
            Due.is("placed", m.place(4000, 0, 0, 0), 0);
            Due.is("free", m.total(0), 0);
            Due.is("free in a second", m.pass(1), 0);
        }
        Ledger.says("strikes and agreements become 0, and the far sensor is in use.");
        DockingMonitor m = placed(2000, 0, -600, 0);
        m.approach();
        m.pass(1);
        Due.is("a strike and an agreement", m.total(2) + m.total(3), 2);
        m.place(2000, 0, 0, 0);
        Due.is("no strike", m.total(2), 0);
        Due.is("no agreement", m.total(3), 0);
        m.pass(3);
        Due.is("near in use", m.total(4), 1);
        m.place(2000, 0, 0, 0);
        Due.is("far in use", m.total(4), 0);
        m.pass(2);
        Due.is("three more are needed", m.total(4), 0);
        rangesOfPlace();
        Ledger.says("Returns the judgement of the ship there");
        Due.is("none", new DockingMonitor().place(5000, 0, 0, 0), 0);
        Due.is("all", new DockingMonitor().place(400, 300, -600, 0), 7);
        Ledger.says("BAD_VALUE if an argument is out of range.");
        int[][] bad = {{0, 0, 0, 0}, {0, -100001, -5001, -5001}, {5, 100001, 5001, 5001},
            {5, 5, 5001, 5001}, {5, 5, 5, 5001}};
        for (int[] b : bad) {
            Due.is("one or more", new DockingMonitor().place(b[0], b[1], b[2], b[3]), BAD_VALUE);
        }
    }

    private static void rangesOfPlace() {
        String[] quotes = {"x: its distance in centimetres, 1 to 100000",
            "y: its offset in centimetres, -100000 to 100000",
            "vx: its speed along x in millimetres per second, -5000 to 5000",
            "vy: its speed along y in millimetres per second, -5000 to 5000"};
        int[] least = {1, -100000, -5000, -5000};
        int[] greatest = {100000, 100000, 5000, 5000};
        for (int i = 0; i < 4; i++) {
            Ledger.says(quotes[i]);
            for (int bad : new int[] {least[i] - 1, greatest[i] + 1, MIN, MAX}) {
                DockingMonitor m = new DockingMonitor();
                Due.is("with " + bad, placeWith(m, i, bad), BAD_VALUE);
                Due.isFloat("still as at first", m.bits(i), i == 0 ? 100.0f : 0.0f);
            }
            float unit = i < 2 ? 100.0f : 1000.0f;
            for (int good : new int[] {least[i], greatest[i], least[i] + 1, greatest[i] - 1}) {
                DockingMonitor m = new DockingMonitor();
                Due.is("with " + good, placeWith(m, i, good), m.judgement());
                Due.isFloat("taken", m.bits(i), good / unit);
            }
        }
    }

    private static int placeWith(DockingMonitor m, int argument, int value) {
        int[] all = {5000, 0, 0, 0};
        all[argument] = value;
        return m.place(all[0], all[1], all[2], all[3]);
    }

    private static void setting() {
        Ledger.says("int set(int setting, int value): Sets a setting.");
        DockingMonitor m = new DockingMonitor();
        m.set(7, 77);
        Due.is("it stands", m.total(20), 77);
        Due.is("no other", m.total(19), 30);
        Ledger.says("setting: 0 to 7");
        Due.is("0", m.set(0, 100), 200);
        Due.is("7", m.set(7, 100), 77);
        Due.is("8", m.set(8, 100), BAD_INDEX);
        Due.is("-1", m.set(-1, 100), BAD_INDEX);
        Ledger.says("value: a value of this setting");
        Due.is("one that only others have", m.set(6, 61), BAD_VALUE);
        Due.is("one that only this one has", m.set(3, 10000), 1000);
        Ledger.says("Returns the value before");
        Due.is("the first one", m.set(6, 1), 30);
        Due.is("the second one", m.set(6, 60), 1);
        Due.is("0 too", m.set(5, 0) * 1000 + m.set(5, 3), 10000);
        Ledger.says("BAD_INDEX if there is no such setting");
        for (int bad : new int[] {-1, 8, MIN, MAX, -8, 13}) {
            Due.is("with " + bad, m.set(bad, 50), BAD_INDEX);
            Due.is("and no such value, with " + bad, m.set(bad, MIN), BAD_INDEX);
        }
        Ledger.says("BAD_VALUE if value is out of its range.");
        for (int s = 0; s < 8; s++) {
            for (int bad : new int[] {Plain.RANGES[s][0] - 1, Plain.RANGES[s][1] + 1, MIN, MAX}) {
                Due.is("setting " + s + " to " + bad, m.set(s, bad), BAD_VALUE);
            }
        }
    }

    private static void points() {
        Ledger.says("Sets a point of the profile, in place of the one with this distance if there is"
                + " one.");
        DockingMonitor m = new DockingMonitor();
        m.setPoint(500, 1);
        m.setPoint(100, 2);
        Due.is("in place of one", m.setPoint(500, 3), 2);
        Due.is("its speed", m.point(1, 1), 3);
        Due.is("the other's", m.point(0, 1), 2);
        Ledger.says("distance: in centimetres, 0 to 100000");
        Due.is("-1", m.setPoint(-1, 5), BAD_VALUE);
        Due.is("100001", m.setPoint(100001, 5), BAD_VALUE);
        Due.is("0", m.setPoint(0, 5), 3);
        Due.is("100000", m.setPoint(100000, 5), 4);
        Due.is("the first", m.point(0, 0), 0);
        Due.is("the last", m.point(3, 0), 100000);
        Ledger.says("speed: in millimetres per second, 1 to 5000");
        Due.is("0", m.setPoint(7, 0), BAD_VALUE);
        Due.is("5001", m.setPoint(7, 5001), BAD_VALUE);
        Due.is("1", m.setPoint(7, 1), 5);
        Due.isFloat("the limit then", m.limit(7), 1 / 1000.0f);
        Due.is("5000", m.setPoint(7, 5000), 5);
        Due.isFloat("the limit then", m.limit(7), 5.0f);
        Ledger.says("Returns the number of points then");
        Due.is("a sixth", m.setPoint(8, 8), 6);
        Due.is("of none", new DockingMonitor().setPoint(8, 8), 1);
        Ledger.says("BAD_VALUE if an argument is out of range");
        for (int bad : new int[] {MIN, MAX, -2, 100002}) {
            Due.is("distance " + bad, m.setPoint(bad, 5), BAD_VALUE);
        }
        for (int bad : new int[] {MIN, MAX, -1, 5002}) {
            Due.is("speed " + bad, m.setPoint(8, bad), BAD_VALUE);
        }
        Due.is("though there is no room", m.setPoint(9, 0), BAD_VALUE);
        Ledger.says("FULL if there are 6 points and none has this distance.");
        Due.is("between", m.setPoint(9, 5), FULL);
        Due.is("behind", m.setPoint(99999, 5), FULL);
        int[] distances = {0, 7, 8, 100, 500, 100000};
        for (int i = 0; i < 6; i++) {
            Due.is("one that is there", m.setPoint(distances[i], 20 + i), 6);
            Due.is("its distance", m.point(i, 0), distances[i]);
            Due.is("its speed", m.point(i, 1), 20 + i);
        }
        m.undo();
        m.undo();
        m.undo();
        Due.is("full behind an undo", m.setPoint(9, 5), FULL);
        DockingMonitor five = new DockingMonitor();
        for (int i = 0; i < 6; i++) {
            five.setPoint(10 + i, 5);
        }
        Due.is("ahead of all", five.setPoint(0, 5), FULL);
        Due.is("behind all", five.setPoint(16, 5), FULL);
        five.undo();
        Due.is("room behind an undo", five.setPoint(0, 5), 6);
    }

    private static void stops() {
        Ledger.says("Adds a stop, which is closed.");
        DockingMonitor m = new DockingMonitor();
        m.addStop(700);
        m.open(0);
        m.addStop(700);
        Due.is("closed", m.stop(1, 1), 0);
        Due.is("the open one stays", m.stop(0, 1), 1);
        m.undo();
        m.undo();
        m.undo();
        m.addStop(800);
        Due.is("closed, where an open one was undone", m.stop(0, 1), 0);
        Ledger.says("distance: in centimetres, 1 to 100000");
        Due.is("0", m.addStop(0), BAD_VALUE);
        Due.is("100001", m.addStop(100001), BAD_VALUE);
        Due.is("1", m.addStop(1), 1);
        Due.is("100000", m.addStop(100000), 2);
        Due.is("the least", m.stop(1, 0), 1);
        Due.is("the greatest", m.stop(2, 0), 100000);
        Ledger.says("Returns its number");
        Due.is("the fourth", m.addStop(1), 3);
        Due.is("the first", new DockingMonitor().addStop(1), 0);
        Ledger.says("BAD_VALUE if distance is out of range");
        for (int bad : new int[] {0, -1, 100001, MIN, MAX}) {
            Due.is("with " + bad, new DockingMonitor().addStop(bad), BAD_VALUE);
            Due.is("though there is no room", m.addStop(bad), BAD_VALUE);
        }
        Ledger.says("FULL if there are 4.");
        Due.is("a fifth", m.addStop(5), FULL);
        m.open(0);
        m.open(1);
        Due.is("open ones count", m.addStop(5), FULL);
        m.undo();
        m.undo();
        m.undo();
        Due.is("room behind an undo", m.addStop(5), 3);
    }

    private static void biases() {
        Ledger.says("Sets the bias of a sensor.");
        DockingMonitor m = placed(5000, 0, 0, 0);
        m.setBias(false, 1);
        Due.isFloat("far", m.bits(6), 50.0f + 1 / 100.0f);
        Due.isFloat("near stays", m.bits(7), 50.0f);
        Ledger.says("near: whether it is the near one");
        m.setBias(true, 2);
        Due.isFloat("far stays", m.bits(6), 50.0f + 1 / 100.0f);
        Due.isFloat("near", m.bits(7), 50.0f + 2 / 100.0f);
        Ledger.says("bias: in centimetres, -500 to 500");
        for (boolean near : new boolean[] {false, true}) {
            int which = near ? 7 : 6;
            m.setBias(near, -500);
            Due.isFloat("the least", m.bits(which), 50.0f + -5.0f);
            m.setBias(near, 500);
            Due.isFloat("the greatest", m.bits(which), 50.0f + 5.0f);
            Due.is("less", m.setBias(near, -501), BAD_VALUE);
            Due.is("more", m.setBias(near, 501), BAD_VALUE);
            Due.isFloat("it stays", m.bits(which), 50.0f + 5.0f);
        }
        Ledger.says("Returns 1 if it is in use, 0 if not");
        m = placed(2000, 0, 0, 0);
        Due.is("far", m.setBias(false, 0), 1);
        Due.is("near", m.setBias(true, 0), 0);
        m.pass(3);
        Due.is("then not far", m.setBias(false, 0), 0);
        Due.is("but near", m.setBias(true, 0), 1);
        Ledger.says("BAD_VALUE if bias is out of range.");
        for (int bad : new int[] {-501, 501, MIN, MAX}) {
            Due.is("far with " + bad, m.setBias(false, bad), BAD_VALUE);
            Due.is("near with " + bad, m.setBias(true, bad), BAD_VALUE);
        }
    }

    private static int act(DockingMonitor m, int to) {
        return to == 1 ? m.approach() : to == 0 ? m.release() : m.retreat();
    }

    private static void acts() {
        actEdges(1, "Lets the ship approach: its mode becomes 1, and the strikes 0.",
                "NOT_POSSIBLE if its mode is 1, 4 or 5.");
        actEdges(0, "Lets the ship be free: its mode becomes 0.",
                "NOT_POSSIBLE if its mode is 0, 4 or 5.");
        actEdges(3, "Lets the ship retreat: its mode becomes 3.",
                "NOT_POSSIBLE if its mode is 3, 4 or 5.");
    }

    private static void actEdges(int to, String what, String refusal) {
        Ledger.says(what);
        for (int from = 0; from < 4; from++) {
            DockingMonitor m = inMode(from);
            if (from != to) {
                act(m, to);
                Due.is("from " + from, m.total(0), to);
                Due.is("no stop is held", m.total(7) > 0 ? m.stop(0, 2) : 0, 0);
            }
        }
        DockingMonitor struck = placed(10000, 0, -700, 0);
        struck.approach();
        struck.pass(1);
        act(struck, to == 3 ? 0 : 3);
        act(struck, to);
        Due.is("a strike", struck.total(2), to == 1 ? 0 : 1);
        Ledger.says("Returns the judgement of the ship");
        DockingMonitor m = placed(400, 300, -600, 0);
        act(m, to == 3 ? 1 : 3);
        Due.is("all", act(m, to), 7);
        m.place(5000, 0, 0, 0);
        act(m, to == 3 ? 1 : 3);
        Due.is("none", act(m, to), 0);
        Ledger.says(refusal);
        for (int from : new int[] {to, 4, 5}) {
            m = inMode(from);
            String before = Due.look(m);
            Due.is("from " + from, act(m, to), NOT_POSSIBLE);
            Due.same("unchanged", Due.look(m), before);
        }
    }

    private static void opening() {
        Ledger.says("int open(int stop): Opens a stop");
        DockingMonitor m = new DockingMonitor();
        for (int i = 0; i < 4; i++) {
            m.addStop(500);
        }
        m.open(2);
        int[] open = {0, 0, 1, 0};
        for (int i = 0; i < 4; i++) {
            Due.is("stop " + i, m.stop(i, 1), open[i]);
        }
        Ledger.says("if it is held, the ship approaches, and the strikes become 0.");
        m = inMode(2);
        m.addStop(5);
        m.open(1);
        Due.is("another one", m.total(0), 2);
        m.open(0);
        Due.is("the one that is held", m.total(0), 1);
        Due.is("it is held no more", m.stop(0, 2), 0);
        for (int mode = 0; mode < 6; mode++) {
            m = inMode(mode);
            m.addStop(5);
            m.open(m.total(7) - 1);
            Due.is("one that is not held, in the mode " + mode, m.total(0), mode);
        }
        strikesWhenHeld();
        Ledger.says("stop: a stop");
        m = new DockingMonitor();
        m.addStop(5);
        Due.is("the only one", m.open(0), 0);
        Due.is("none", m.open(1), BAD_INDEX);
        Ledger.says("Returns the number of closed stops then");
        m = new DockingMonitor();
        for (int i = 0; i < 4; i++) {
            m.addStop(500);
        }
        for (int i = 3; i >= 0; i--) {
            Due.is("left", m.open(i), i);
        }
        Ledger.says("BAD_INDEX if there is no such stop");
        for (int bad : new int[] {-1, 4, MIN, MAX}) {
            Due.is("with " + bad, m.open(bad), BAD_INDEX);
        }
        Due.is("of a new one", new DockingMonitor().open(0), BAD_INDEX);
        Ledger.says("NOT_POSSIBLE if it is open.");
        for (int i = 0; i < 4; i++) {
            Due.is("stop " + i, m.open(i), NOT_POSSIBLE);
        }
        m.undo();
        Due.is("closed behind an undo", m.open(0), 0);
    }

    private static void strikesWhenHeld() {
        DockingMonitor m = new DockingMonitor();
        m.set(6, 1);
        m.set(4, 500);
        m.set(3, 0);
        m.setPoint(0, 30);
        m.addStop(5000);
        m.place(5024, 0, -560, 0);
        m.approach();
        m.pass(2);
        Due.is("held with a strike", m.stop(0, 2) + m.total(2), 2);
        m.addStop(3);
        m.open(1);
        Due.is("the strike stays at another", m.total(2), 1);
        m.open(0);
        Due.is("no strike", m.total(2), 0);
    }

    private static void passing() {
        Ledger.says("Lets seconds pass, one after the other.");
        DockingMonitor all = Everything.rich();
        DockingMonitor each = Everything.rich();
        all.pass(200);
        for (int i = 0; i < 200; i++) {
            each.pass(1);
        }
        Due.same("at once or one by one", Due.look(all), Due.look(each));
        Ledger.says("seconds: 1 to 200");
        DockingMonitor m = new DockingMonitor();
        Due.is("0", m.pass(0), BAD_VALUE);
        Due.is("201", m.pass(201), BAD_VALUE);
        Due.is("none passed", m.total(1), 0);
        Due.is("1", m.pass(1), 0);
        Due.is("one passed", m.total(1), 1);
        Due.is("200", m.pass(200), 0);
        Due.is("201 passed", m.total(1), 201);
        Ledger.says("Returns the mode then");
        Due.is("docked", placed(5, 0, -50, 0).pass(1), 4);
        Due.is("free", placed(5, 0, -49, 0).pass(1), 0);
        Due.is("then docked", placed(5, 0, -49, 0).pass(2), 4);
        Ledger.says("BAD_VALUE if seconds is out of range.");
        for (int bad : new int[] {-1, 0, 201, MIN, MAX}) {
            Due.is("with " + bad, m.pass(bad), BAD_VALUE);
            Due.is("in an end mode", inMode(4).pass(bad), BAD_VALUE);
        }
    }

    private static void appending() {
        Ledger.says("Appends a byte to the text.");
        DockingMonitor m = withText("o0");
        Due.is("too short", m.faultPosition(), 2);
        m.append(';');
        Due.is("at its end", m.faultPosition(), NONE);
        Ledger.says("b: 32 to 126");
        Due.is("31", m.append(31), BAD_VALUE);
        Due.is("127", m.append(127), BAD_VALUE);
        Due.is("32", m.append(32), 4);
        Due.is("126", m.append(126), 5);
        Ledger.says("Returns the length of the text then");
        m.clearText();
        for (int i = 1; i <= 80; i++) {
            Due.is("the length", m.append(i < 80 ? 'g' : ';'), i);
        }
        Ledger.says("BAD_VALUE if b is out of range");
        for (int bad : new int[] {31, 127, 0, -1, 256 + 'g', -256 + 'g', 65536 + 'g', MIN, MAX}) {
            Due.is("with " + bad, new DockingMonitor().append(bad), BAD_VALUE);
            Due.is("though there is no room", m.append(bad), BAD_VALUE);
        }
        Ledger.says("FULL if the text has 80 bytes.");
        Due.is("an 81st", m.append('g'), FULL);
        Due.is("the least byte", m.append(32), FULL);
        m.clearText();
        Due.is("room behind clearing", m.append('g'), 1);
        Ledger.says("Empties the text.");
        m.clearText();
        Due.is("no length", m.total(10), 0);
        Due.is("no fault", m.faultPosition(), NONE);
        Ledger.says("Returns the length that it had.");
        Due.is("0", m.clearText(), 0);
        Due.is("1", withText("g").clearText(), 1);
        Due.is("80", withText("g;".repeat(41)).clearText(), 80);
    }

    private static void faults() {
        Ledger.namesNoEdge("Returns the fault position of the text.");
        Ledger.says("Returns the fault position");
        Due.is("at 0", withText("x").faultPosition(), 0);
        Due.is("behind all", withText("g").faultPosition(), 1);
        Due.is("behind 80 bytes", withText("g;".repeat(39) + "t1").faultPosition(), 80);
        Ledger.says("NONE if it has no fault.");
        Due.is("empty", withText("").faultPosition(), NONE);
        Due.is("full", withText("o0;".repeat(26) + "f;").faultPosition(), NONE);
    }

    private static void running() {
        Ledger.says("Carries out the acts of the text in their order, each as by approach, release,"
                + " retreat, open or pass (but not recorded by itself), until one of them reports an"
                + " error");
        DockingMonitor m = withText("g;t2;b;t1;f;t200;o0;g;");
        m.addStop(9995);
        DockingMonitor each = withText("g;t2;b;t1;f;t200;o0;g;");
        each.addStop(9995);
        Due.is("all", m.run(), 8);
        each.approach();
        each.pass(2);
        each.retreat();
        each.pass(1);
        each.release();
        each.pass(200);
        each.open(0);
        each.approach();
        Due.same("as by the calls", stateOnly(m), stateOnly(each));
        Due.is("but not recorded by itself", m.total(9), 2);
        untilAnError();
        Ledger.says("the text stays.");
        m = withText("t1;");
        m.run();
        m.run();
        Due.is("run twice", m.total(1), 2);
        Due.is("its length", m.total(10), 3);
        Ledger.says("Recorded, as one call.");
        m = withText("t1;".repeat(9));
        m.run();
        Due.is("one", m.total(9), 1);
        Due.is("undone", m.undo() + m.total(1), 0);
        Ledger.says("Returns the number of acts that were carried out without an error");
        Due.is("of none", withText("").run(), 0);
        Due.is("of forty", withText("g;f;".repeat(20)).run(), 40);
        Due.is("the first is refused", withText("f;").run(), 0);
        Due.is("the last is refused", withText("g;f;".repeat(19) + "g;g;").run(), 39);
        Ledger.says("NOT_POSSIBLE if the text has a fault.");
        for (String text : new String[] {"x", "g", "g;x", "t1;t0;", "t1;o4;", "t1;t201;", "t1;t1"}) {
            m = withText(text);
            Due.is("run of " + text, m.run(), NOT_POSSIBLE);
            Due.is("nothing was carried out", m.total(1) + m.total(0) + m.total(9), 0);
        }
    }

    private static void untilAnError() {
        String[] texts = {"t1;f;t2;", "t1;g;g;t2;", "t1;b;b;t2;", "t1;o1;t2;", "t1;o0;o0;t2;", "t1;o3;t2;"};
        int[] done = {1, 2, 2, 1, 2, 1};
        for (int i = 0; i < texts.length; i++) {
            DockingMonitor m = withText(texts[i]);
            m.addStop(500);
            Due.is("acts of " + texts[i], m.run(), done[i]);
            Due.is("seconds of " + texts[i], m.total(1), 1);
            Due.is("recorded all the same", m.total(9), 2);
        }
        DockingMonitor m = withText("t1;g;");
        m.place(5, 0, -50, 0);
        Due.is("a docked ship can't approach", m.run(), 1);
    }

    private static void undoing() {
        Ledger.says("Removes the latest state from the history and makes it the present one.");
        DockingMonitor m = new DockingMonitor();
        m.set(6, 1);
        m.set(6, 2);
        m.undo();
        Due.is("the latest", m.total(19), 1);
        m.undo();
        Due.is("the one ahead of it", m.total(19), 30);
        Ledger.says("Returns the number of states that are left in the history");
        for (int i = 1; i <= 7; i++) {
            m.set(6, i);
        }
        for (int left = 4; left >= 0; left--) {
            Due.is("left", m.undo(), left);
        }
        Ledger.says("NOT_POSSIBLE if there is none.");
        Due.is("none", m.undo(), NOT_POSSIBLE);
        Due.is("unchanged", m.total(19), 2);
        Due.is("of a new one", new DockingMonitor().undo(), NOT_POSSIBLE);
    }

    private static void slots() {
        Ledger.says("Keeps a copy of the present state in a slot, in place of what it holds.");
        DockingMonitor m = new DockingMonitor();
        m.set(6, 1);
        m.save(0);
        m.set(6, 2);
        m.save(0);
        m.set(6, 3);
        m.restore(0);
        Due.is("in place of the first", m.total(19), 2);
        Due.is("not recorded", m.total(9), 4);
        Ledger.says("slot: 0 or 1");
        Due.is("0", m.save(0), 0);
        Due.is("1", m.save(1), 0);
        Due.is("2", m.save(2), BAD_INDEX);
        Due.is("-1", m.save(-1), BAD_INDEX);
        Ledger.says("Returns the mode");
        for (int mode = 0; mode < 6; mode++) {
            Due.is("the mode", inMode(mode).save(1), mode);
        }
        Ledger.says("BAD_INDEX if there is no such slot.");
        for (int bad : new int[] {-1, 2, MIN, MAX}) {
            Due.is("with " + bad, m.save(bad), BAD_INDEX);
        }
        Ledger.says("Makes a copy of the state that a slot holds the present one.");
        m = inMode(2);
        m.save(1);
        String before = Due.look(m);
        m.save(0);
        m.release();
        m.pass(100);
        m.restore(1);
        m.place(5, 5, 5, 5);
        m.restore(1);
        m.undo();
        m.undo();
        m.undo();
        m.undo();
        m.undo();
        m.restore(1);
        Due.is("it holds", m.total(0) + m.stop(0, 2), 3);
        Due.same("a copy of it", stateOnly(m), stateOnly(before));
        Ledger.says("slot: 0 or 1");
        Due.is("0", m.restore(0), 2);
        Due.is("1", m.restore(1), 2);
        Due.is("2", m.restore(2), BAD_INDEX);
        Due.is("-1", m.restore(-1), BAD_INDEX);
        Ledger.says("Returns the mode, as it is then");
        m.release();
        m.save(0);
        Due.is("free", m.restore(0), 0);
        Due.is("holding", m.restore(1), 2);
        Ledger.says("BAD_INDEX if there is no such slot");
        for (int bad : new int[] {-1, 2, MIN, MAX}) {
            Due.is("with " + bad, m.restore(bad), BAD_INDEX);
        }
        Ledger.says("NOT_POSSIBLE if it is empty.");
        m = new DockingMonitor();
        Due.is("0", m.restore(0), NOT_POSSIBLE);
        m.save(0);
        Due.is("1", m.restore(1), NOT_POSSIBLE);
        Due.is("not recorded", m.total(9), 0);
    }

    private static String stateOnly(DockingMonitor m) {
        return stateOnly(Due.look(m));
    }

    /** Without the number of states in the history. */
    private static String stateOnly(String look) {
        String[] words = look.split(" ");
        words[8 + 9] = "-";
        return String.join(" ", words);
    }

    public static void main(String[] args) {
        Ledger.openPart("## Promise 1:", "## Promise 19:");
        newObject();
        placing();
        setting();
        points();
        stops();
        biases();
        acts();
        opening();
        passing();
        appending();
        faults();
        running();
        undoing();
        slots();
        Ledger.end();
    }
}
