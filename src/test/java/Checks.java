import java.nio.charset.StandardCharsets;

/** What all tests share: texts become calls of write, answers are compared, and wrong ones are printed. */
final class Checks {
    private static int wrong = 0;

    private Checks() {
    }

    static void due(String what, long got, long want) {
        if (got != want) {
            wrong++;
            System.out.println(what + " answered " + got + ", due is " + want);
        }
    }

    static void due(String what, String got, String want) {
        if (!got.equals(want)) {
            wrong++;
            System.out.println(what + " answered\n  " + got + "\ndue is\n  " + want);
        }
    }

    /** Every test ends with this. */
    static void end() {
        System.out.println(wrong == 0 ? "all answers are as due" : wrong + " answers are not as due");
        if (wrong != 0) {
            System.exit(1);
        }
    }

    static void add(LabelScript x, String text) {
        byte[] bytes = text.getBytes(StandardCharsets.ISO_8859_1);
        for (int from = 0; from < bytes.length; from += 8) {
            int n = Math.min(8, bytes.length - from);
            long packed = 0;
            for (int i = 0; i < n; i++) {
                packed |= (bytes[from + i] & 255L) << (8 * i);
            }
            x.write(n, packed);
        }
    }

    /** Reads this text alone; forms and variables of the object stay. */
    static int readAlone(LabelScript x, String text) {
        x.wipe();
        add(x, text);
        return x.read();
    }

    static LabelScript reading(String text) {
        LabelScript x = new LabelScript();
        readAlone(x, text);
        return x;
    }

    /** The outcome of a reading: "labels n", or "fault f at p". */
    static String outcome(LabelScript x, String text) {
        int answer = readAlone(x, text);
        if (answer != LabelScript.NONE) {
            due("fault() after " + text, x.fault(), 0);
            due("place() after " + text, x.place(), LabelScript.NONE);
            return "labels " + answer;
        }
        return "fault " + x.fault() + " at " + x.place();
    }

    static void dueFault(String text, int fault, int place) {
        due(text, outcome(new LabelScript(), text), "fault " + fault + " at " + place);
    }

    static void dueLabels(String text, int labels) {
        due(text, outcome(new LabelScript(), text), "labels " + labels);
    }

    /** Order k in one line: kind, x, y, r, way, a, b, c, and its data. */
    static String shown(LabelScript x, int k) {
        StringBuilder line = new StringBuilder();
        for (int what = 0; what <= 7; what++) {
            line.append(x.order(k, what)).append(' ');
        }
        return line.append('[').append(dataOf(x, k)).append(']').toString();
    }

    static String dataOf(LabelScript x, int k) {
        int size = x.order(k, 8);
        StringBuilder bytes = new StringBuilder();
        for (int from = 0; from < size; from += 8) {
            long packed = x.data(k, from);
            for (int i = 0; i < 8 && from + i < size; i++) {
                bytes.append((char) (packed >>> (8 * i) & 255));
            }
        }
        return bytes.toString();
    }

    static int orderCount(LabelScript x) {
        int count = 0;
        for (int k = 0; x.label(k, 3) != LabelScript.NONE; k++) {
            count += x.label(k, 3);
        }
        return count;
    }

    /** All orders that a label of 9 times 9 dots with these commands has, a line each. */
    static void dueOrders(String commands, String... lines) {
        dueOrdersOf("^L9,9" + commands + "^E", lines);
    }

    static void dueOrdersOf(String text, String... lines) {
        LabelScript x = reading(text);
        due("fault() of " + text, x.fault(), 0);
        StringBuilder got = new StringBuilder();
        for (int k = 0; k < orderCount(x); k++) {
            got.append(shown(x, k)).append('\n');
        }
        StringBuilder want = new StringBuilder();
        for (String line : lines) {
            want.append(line).append('\n');
        }
        due(text, got.toString(), want.toString());
    }

    /** The simple name of what the call throws, or "nothing". */
    static String thrownBy(Runnable call) {
        try {
            call.run();
        } catch (RuntimeException e) {
            return e.getClass().getSimpleName();
        }
        return "nothing";
    }
}
