/** Long runs of calls, each answer compared with that of the plain model of the document. */
public final class ModelRuns {
    private static final int RUNS = 1500;
    private static final int CALLS = 100;
    private static final int LIFE = 512;
    private static long seed = 20261119L;
    private static final int[] modesSeen = new int[6];
    private static int judgedRetreats;
    private static int sensorChanges;
    private static int heldStops;
    private static int heldWithout;

    private DockingMonitor real;
    private Plain plain;
    private StringBuilder story;

    private static int below(int n) {
        seed = seed * 6364136223846793005L + 1442695040888963407L;
        return (int) ((seed >>> 33) % n);
    }

    private static int from(int least, int greatest) {
        return least + below(greatest - least + 1);
    }

    /** A value of a range, often at its edges or just beyond them. */
    private static int around(int least, int greatest) {
        switch (below(24)) {
            case 0:
                return least;
            case 1:
                return greatest;
            case 2:
                return least - 1;
            case 3:
                return greatest + 1;
            case 4:
                return below(8) == 0 ? Integer.MIN_VALUE : least;
            case 5:
                return below(8) == 0 ? Integer.MAX_VALUE : greatest;
            default:
                return from(least, greatest);
        }
    }

    private void due(String call, long got, long want) {
        story.append(call).append(" = ").append(got).append('\n');
        Due.is(call, got, want);
        if (got != want) {
            System.out.println("the run was:\n" + story);
            Due.end();
        }
    }

    private void shipCall() {
        switch (below(9)) {
            case 0: {
                boolean wild = below(3) == 0;
                int x = wild ? around(1, 100000) : from(100, below(2) == 0 ? 9000 : 3100);
                int y = wild ? around(-100000, 100000) : from(-300, 300);
                int vx = wild ? around(-5000, 5000) : from(-700, 100);
                int vy = wild ? around(-5000, 5000) : from(-20, 20);
                due("place(" + x + ", " + y + ", " + vx + ", " + vy + ")", real.place(x, y, vx, vy),
                        plain.place(x, y, vx, vy));
                break;
            }
            case 1:
            case 2:
            case 3: {
                int setting = around(0, 7);
                int value = setting < 0 || setting > 7 ? 50
                        : around(Plain.RANGES[setting][0], Plain.RANGES[setting][1]);
                due("set(" + setting + ", " + value + ")", real.set(setting, value),
                        plain.set(setting, value));
                break;
            }
            case 4:
            case 5: {
                int distance = below(3) == 0 ? around(0, 100000) : 500 * from(0, 12);
                int speed = below(3) == 0 ? around(1, 5000) : from(10, 600);
                due("setPoint(" + distance + ", " + speed + ")", real.setPoint(distance, speed),
                        plain.setPoint(distance, speed));
                break;
            }
            case 6:
            case 7: {
                int distance = below(4) == 0 ? around(1, 100000) : 100 * from(1, 70);
                due("addStop(" + distance + ")", real.addStop(distance), plain.addStop(distance));
                break;
            }
            default: {
                boolean near = below(2) == 0;
                int bias = below(2) == 0 ? around(-500, 500) : from(-30, 30);
                due("setBias(" + near + ", " + bias + ")", real.setBias(near, bias),
                        plain.setBias(near, bias));
                break;
            }
        }
    }

    private void actCall() {
        switch (below(10)) {
            case 0:
            case 1:
            case 2:
                due("approach()", real.approach(), plain.act('g', 0));
                break;
            case 3:
                due("release()", real.release(), plain.act('f', 0));
                break;
            case 4:
                due("retreat()", real.retreat(), plain.act('b', 0));
                break;
            case 5: {
                int stop = around(0, 3);
                due("open(" + stop + ")", real.open(stop), plain.act('o', stop));
                break;
            }
            default: {
                int seconds = below(3) == 0 ? around(1, 200) : from(1, below(2) == 0 ? 5 : 80);
                due("pass(" + seconds + ")", real.pass(seconds), plain.act('t', seconds));
                break;
            }
        }
    }

    private void write(String text) {
        for (int i = 0; i < text.length(); i++) {
            int b = text.charAt(i);
            due("append(" + b + ")", real.append(b), plain.append(b));
        }
    }

    private void textCall() {
        String[] parts = {"g;", "f;", "b;", "o0;", "o1;", "o2;", "o3;", "t1;", "t9;", "t40;", "t200;",
            "t", "o", ";", "0", "1", "00", "t201;", "o4;", "t0;", "o10;", "t01;", "x", " ", "t1000;",
            "t2000;", "o00;", "t19", "g"};
        switch (below(8)) {
            case 0:
                due("clearText()", real.clearText(), plain.clearText());
                break;
            case 1: {
                int b = around(32, 126);
                due("append(" + b + ")", real.append(b), plain.append(b));
                break;
            }
            case 2:
            case 3:
                write(parts[below(11)]);
                break;
            case 4:
                write(parts[below(parts.length)]);
                break;
            case 5:
                due("faultPosition()", real.faultPosition(), plain.faultPosition());
                break;
            default:
                due("run()", real.run(), plain.run());
                break;
        }
    }

    private void historyCall() {
        int slot = around(0, 1);
        switch (below(5)) {
            case 0:
            case 1:
                due("undo()", real.undo(), plain.undo());
                break;
            case 2:
                due("save(" + slot + ")", real.save(slot), plain.save(slot));
                break;
            default:
                due("restore(" + slot + ")", real.restore(slot), plain.restore(slot));
                break;
        }
    }

    private void lookCall() {
        int which = around(0, 7);
        due("bits(" + which + ")", real.bits(which), plain.bits(which));
        due("thousandths(" + which + ")", real.thousandths(which), plain.thousandths(which));
        int distance = below(2) == 0 ? around(0, 100000) : from(0, 6100);
        due("limit(" + distance + ")", real.limit(distance), plain.limit(distance));
        int stop = around(0, 3);
        int property = around(0, 2);
        due("stop(" + stop + ", " + property + ")", real.stop(stop, property),
                plain.stop(stop, property));
        int point = around(0, 5);
        property = around(0, 1);
        due("point(" + point + ", " + property + ")", real.point(point, property),
                plain.point(point, property));
        property = around(0, 20);
        due("total(" + property + ")", real.total(property), plain.total(property));
    }

    private void forecastCall() {
        int seconds = below(2) == 0 ? around(0, 500) : from(0, 60);
        switch (below(8)) {
            case 0:
            case 1:
            case 2:
                due("modeIn(" + seconds + ")", real.modeIn(seconds), plain.modeIn(seconds));
                break;
            case 3:
            case 4: {
                int mode = around(0, 5);
                due("secondsTo(" + mode + ")", real.secondsTo(mode), plain.secondsTo(mode));
                break;
            }
            case 5:
            case 6:
                due("closest(" + seconds + ")", real.closest(seconds), plain.closest(seconds));
                break;
            default:
                due("safeSpeed()", real.safeSpeed(), plain.safeSpeed());
                break;
        }
    }

    private void compareAll() {
        for (int i = 0; i < 8; i++) {
            due("bits(" + i + ")", real.bits(i), plain.bits(i));
        }
        for (int i = 0; i < 21; i++) {
            due("total(" + i + ")", real.total(i), plain.total(i));
        }
        for (int i = 0; i < 4; i++) {
            due("stop(" + i + ", 0)", real.stop(i, 0), plain.stop(i, 0));
            due("stop(" + i + ", 1)", real.stop(i, 1), plain.stop(i, 1));
            due("stop(" + i + ", 2)", real.stop(i, 2), plain.stop(i, 2));
        }
        due("judgement()", real.judgement(), plain.judgement());
    }

    private void countWhatWasSeen() {
        modesSeen[real.total(0)]++;
        judgedRetreats += real.total(11) > 0 ? 1 : 0;
        sensorChanges += real.total(12) > 0 ? 1 : 0;
        boolean held = false;
        for (int i = 0; i < real.total(7); i++) {
            held |= real.stop(i, 2) == 1;
        }
        heldStops += held ? 1 : 0;
        heldWithout += real.total(0) == 2 && !held ? 1 : 0;
    }

    private void oneRun(int calls) {
        real = new DockingMonitor();
        plain = new Plain();
        story = new StringBuilder();
        for (int i = 0; i < calls; i++) {
            int kind = below(20);
            if (kind < 5) {
                shipCall();
            } else if (kind < 11) {
                actCall();
            } else if (kind < 14) {
                textCall();
            } else if (kind < 16) {
                historyCall();
            } else if (kind < 18) {
                lookCall();
            } else {
                forecastCall();
            }
        }
        compareAll();
        countWhatWasSeen();
    }

    public static void main(String[] args) {
        for (int run = 0; run < RUNS; run++) {
            new ModelRuns().oneRun(run % 25 == 0 ? LIFE : CALLS);
        }
        for (int mode = 0; mode < 6; mode++) {
            Due.is("runs that end in mode " + mode + " are enough", modesSeen[mode] > 5 ? 1 : 0, 1);
        }
        Due.is("enough judged retreats", judgedRetreats > 20 ? 1 : 0, 1);
        Due.is("enough changes of sensors", sensorChanges > 20 ? 1 : 0, 1);
        Due.is("enough held stops", heldStops > 10 ? 1 : 0, 1);
        Due.is("enough holds without a stop", heldWithout > 10 ? 1 : 0, 1);
        System.out.println("modes " + java.util.Arrays.toString(modesSeen) + ", judged retreats "
                + judgedRetreats + ", sensor changes " + sensorChanges + ", held " + heldStops
                + ", without a stop " + heldWithout);
        Due.end();
    }
}
