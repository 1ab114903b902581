/** Compares answers with those that are due and ends a test. */
final class Due {
    private static int wrong = 0;
    private static int seen = 0;
    private static String sentence = "";

    private Due() {
    }

    static void is(String what, long got, long want) {
        seen++;
        if (got != want) {
            wrong++;
            if (wrong <= 40) {
                System.out.println(sentence + what + ": answered " + got + ", due is " + want);
            }
        }
    }

    static void isFloat(String what, int gotBits, float want) {
        is(what + " (a float, " + Float.intBitsToFloat(gotBits) + " for " + want + ")", gotBits,
                Float.floatToIntBits(want));
    }

    /** The document's sentence that the next answers belong to, or nothing. */
    static void sentence(String quote) {
        sentence = quote.isEmpty() ? "" : "\"" + quote + "\": ";
    }

    static int seen() {
        return seen;
    }

    static void end() {
        System.out.println(wrong == 0 ? seen + " answers are as due"
                : wrong + " of " + seen + " answers are not as due");
        if (wrong != 0) {
            System.exit(1);
        }
    }

    static void write(DockingMonitor monitor, String text) {
        for (int i = 0; i < text.length(); i++) {
            monitor.append(text.charAt(i));
        }
    }

    /** All that a looking call can tell, so that "changes nothing" can be compared. */
    static String look(DockingMonitor monitor) {
        StringBuilder all = new StringBuilder();
        for (int i = 0; i < 8; i++) {
            all.append(monitor.bits(i)).append(' ');
        }
        for (int i = 0; i < 21; i++) {
            all.append(monitor.total(i)).append(' ');
        }
        for (int i = 0; i < monitor.total(7); i++) {
            all.append(monitor.stop(i, 0)).append('/').append(monitor.stop(i, 1)).append('/')
                    .append(monitor.stop(i, 2)).append(' ');
        }
        for (int i = 0; i < monitor.total(6); i++) {
            all.append(monitor.point(i, 0)).append(':').append(monitor.point(i, 1)).append(' ');
        }
        return all.append(monitor.judgement()).append(' ').append(monitor.faultPosition()).toString();
    }

    static void same(String what, String got, String want) {
        seen++;
        if (!got.equals(want)) {
            wrong++;
            System.out.println(sentence + what + ":\n  got " + got + "\n  due " + want);
        }
    }
}
