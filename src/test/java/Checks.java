import java.nio.charset.StandardCharsets;
import java.util.function.Consumer;
import java.util.function.Supplier;

/** What all tests share: texts become calls of write, answers are compared, and wrong ones are printed. */
final class Checks {
    private static int wrong = 0;
    private static String sentence = "";

    private Checks() {
    }

    /** Says for which words of the document the checks that follow are: a promise or a paragraph of "Terms". */
    static void sentence(String where, String words) {
        sentence = where + ": \"" + words + "\"";
    }

    private static void complain(String line) {
        wrong++;
        if (!sentence.isEmpty()) {
            System.out.println("for " + sentence);
        }
        System.out.println(line);
    }

    static void due(String what, long got, long want) {
        if (got != want) {
            complain(what + " answered " + got + ", due is " + want);
        }
    }

    static void due(String what, String got, String want) {
        if (!got.equals(want)) {
            complain(what + " answered\n  " + got + "\ndue is\n  " + want);
        }
    }

    /** Every test ends with this. */
    static void end() {
        System.out.println(wrong == 0 ? "all answers are as due" : wrong + " answers are not as due");
        if (wrong != 0) {
            System.exit(1);
        }
    }

    static void add(LabelScript x, String text) {
        byte[] bytes = text.getBytes(StandardCharsets.ISO_8859_1);
        for (int from = 0; from < bytes.length; from += 8) {
            int n = Math.min(8, bytes.length - from);
            long packed = 0;
            for (int i = 0; i < n; i++) {
                packed |= (bytes[from + i] & 255L) << (8 * i);
            }
            x.write(n, packed);
        }
    }

    /** Reads this text alone; forms and variables of the object stay. */
    static int readAlone(LabelScript x, String text) {
        x.wipe();
        add(x, text);
        return x.read();
    }

    static LabelScript reading(String text) {
        LabelScript x = new LabelScript();
        readAlone(x, text);
        return x;
    }

    /** The outcome of a reading: "labels n", or "fault f at p". */
    static String outcome(LabelScript x, String text) {
        int answer = readAlone(x, text);
        if (answer != LabelScript.NONE) {
            due("fault() after " + text, x.fault(), 0);
            due("place() after " + text, x.place(), LabelScript.NONE);
            return "labels " + answer;
        }
        return "fault " + x.fault() + " at " + x.place();
    }

    static void dueFault(String text, int fault, int place) {
        due(text, outcome(new LabelScript(), text), "fault " + fault + " at " + place);
    }

    static void dueLabels(String text, int labels) {
        due(text, outcome(new LabelScript(), text), "labels " + labels);
    }

    /** The fault alone, wherever it is; 0 for none. */
    static void fault(String text, int fault) {
        due("fault() of " + text, reading(text).fault(), fault);
    }

    /** The fault alone of a label of 9 times 9 dots with these commands. */
    static void inLabel(String commands, int fault) {
        fault("^L9,9" + commands + "^E", fault);
    }

    /** In front and behind stands what makes of a number a text that is good when the number is. */
    static void range(String front, int least, int most, String behind) {
        fault(front + least + behind, 0);
        fault(front + most + behind, 0);
        fault(front + (least - 1) + behind, 5);
        fault(front + (most + 1) + behind, 5);
    }

    /** Order k in one line: kind, x, y, r, way, a, b, c, and its data. */
    static String shown(LabelScript x, int k) {
        StringBuilder line = new StringBuilder();
        for (int what = 0; what <= 7; what++) {
            line.append(x.order(k, what)).append(' ');
        }
        return line.append('[').append(dataOf(x, k)).append(']').toString();
    }

    static String dataOf(LabelScript x, int k) {
        int size = x.order(k, 8);
        StringBuilder bytes = new StringBuilder();
        for (int from = 0; from < size; from += 8) {
            long packed = x.data(k, from);
            for (int i = 0; i < 8 && from + i < size; i++) {
                bytes.append((char) (packed >>> (8 * i) & 255));
            }
        }
        return bytes.toString();
    }

    static int orderCount(LabelScript x) {
        int count = 0;
        for (int k = 0; x.label(k, 3) != LabelScript.NONE; k++) {
            count += x.label(k, 3);
        }
        return count;
    }

    /** All orders that a label of 9 times 9 dots with these commands has, a line each. */
    static void dueOrders(String commands, String... lines) {
        dueOrdersOf("^L9,9" + commands + "^E", lines);
    }

    static void dueOrdersOf(String text, String... lines) {
        LabelScript x = reading(text);
        due("fault() of " + text, x.fault(), 0);
        StringBuilder got = new StringBuilder();
        for (int k = 0; k < orderCount(x); k++) {
            got.append(shown(x, k)).append('\n');
        }
        StringBuilder want = new StringBuilder();
        for (String line : lines) {
            want.append(line).append('\n');
        }
        due(text, got.toString(), want.toString());
    }

    /** The data alone of all orders of a text. */
    static void dueData(String text, String... want) {
        LabelScript x = reading(text);
        int count = orderCount(x);
        due("orders of " + text, count, want.length);
        for (int k = 0; k < want.length && k < count; k++) {
            due("data of order " + k + " of " + text, dataOf(x, k), want[k]);
        }
    }

    /** What the last reading left: its fault and place, its labels and orders. */
    static String seen(LabelScript x) {
        StringBuilder all = new StringBuilder();
        all.append("fault ").append(x.fault()).append(" at ").append(x.place()).append('\n');
        for (int k = 0; x.label(k, 0) != LabelScript.NONE; k++) {
            all.append("label");
            for (int what = 0; what <= 3; what++) {
                all.append(' ').append(x.label(k, what));
            }
            all.append('\n');
        }
        int count = orderCount(x);
        for (int k = 0; k < count; k++) {
            all.append(shown(x, k)).append('\n');
        }
        String behind = thrownBy(() -> x.order(count, 0));
        return all.append("order behind them: ").append(behind).append('\n').toString();
    }

    /** What the forms 0 .. 7 draw and the variables 0 .. 9 hold; the text is another one then. */
    static String stored(LabelScript x) {
        StringBuilder forms = new StringBuilder("^L9,9");
        for (int k = 0; k <= 7; k++) {
            forms.append("^U").append(k);
        }
        StringBuilder variables = new StringBuilder("^L9,9");
        for (int k = 0; k <= 9; k++) {
            variables.append("^T^V").append(k).append("^;");
        }
        readAlone(x, forms.append("^E").toString());
        String drawn = seen(x);
        readAlone(x, variables.append("^E").toString());
        return drawn + seen(x);
    }

    /** All that can be found out of an object. */
    static String everything(LabelScript x) {
        String before = seen(x);
        int answer = x.read();
        String again = seen(x);
        int size = x.wipe();
        return before + "read() " + answer + "\n" + again + "wipe() " + size + "\n" + stored(x);
    }

    /** Whatever the refused call was, the object is as one that never got it. */
    static void dueUnchanged(String what, Supplier<LabelScript> made, Consumer<LabelScript> refused) {
        LabelScript x = made.get();
        refused.accept(x);
        due("all answers after " + what, everything(x), everything(made.get()));
    }

    /** Every form and variable has something else in it. */
    static String storeAll() {
        StringBuilder text = new StringBuilder();
        for (int k = 0; k <= 7; k++) {
            text.append("^S").append(k).append("^F1").append(k).append("^;^Z");
        }
        for (int k = 0; k <= 9; k++) {
            text.append("^K").append(k).append(",v").append(k);
        }
        return text.toString();
    }

    /** The simple name of what the call throws, or "nothing". */
    static String thrownBy(Runnable call) {
        try {
            call.run();
        } catch (RuntimeException e) {
            return e.getClass().getSimpleName();
        }
        return "nothing";
    }

    static void dueThrown(String what, Runnable call, String name) {
        due(what + " throws", thrownBy(call), name);
    }
}
