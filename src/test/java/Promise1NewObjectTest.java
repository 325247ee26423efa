/** Promise 1: an empty text, empty forms and variables; nothing was read. */
public final class Promise1NewObjectTest {
    private static final String PROMISE = "Promise 1";

    public static void main(String[] args) {
        anEmptyText();
        emptyFormsAndVariables();
        nothingWasRead();
        eachObjectHasItsOwn();
        Checks.end();
    }

    private static void anEmptyText() {
        Checks.sentence(PROMISE, "An empty text");
        Checks.due("wipe()", new LabelScript().wipe(), 0);
        Checks.due("write(1, 0)", new LabelScript().write(1, 0L), 1);
        LabelScript x = new LabelScript();
        Checks.due("read()", x.read(), 0);
        Checks.due("fault() then", x.fault(), 0);
    }

    private static void emptyFormsAndVariables() {
        Checks.sentence(PROMISE, "empty forms and variables");
        for (int k = 0; k <= 7; k++) {
            Checks.dueFault("^L9,9^U" + k + "^E", 9, 5);
        }
        for (int k = 0; k <= 9; k++) {
            Checks.dueFault("^L9,9^T^V" + k + "^;^E", 8, 10);
            Checks.dueFault("^L9,9^T^Xa^V" + k + "^;^E", 8, 13);
        }
    }

    private static void nothingWasRead() {
        Checks.sentence(PROMISE, "nothing was read");
        LabelScript x = new LabelScript();
        Checks.due("fault()", x.fault(), 0);
        Checks.due("place()", x.place(), LabelScript.NONE);
        for (int what = 0; what <= 3; what++) {
            Checks.due("label(0, " + what + ")", x.label(0, what), LabelScript.NONE);
        }
        Checks.dueThrown("order(0, 0)", () -> x.order(0, 0), "IndexOutOfBoundsException");
        Checks.dueThrown("data(0, 0)", () -> x.data(0, 0), "IndexOutOfBoundsException");
        Checks.add(x, "^L9,9^F^;^E");
        Checks.due("label(0, 0) of a text that is not read yet", x.label(0, 0), LabelScript.NONE);
        Checks.dueThrown("order(0, 0) of it", () -> x.order(0, 0), "IndexOutOfBoundsException");
    }

    private static void eachObjectHasItsOwn() {
        Checks.sentence(PROMISE, "An empty text, empty forms and variables; nothing was read.");
        LabelScript first = Checks.reading(Checks.storeAll() + "^L9,9^F^;^E");
        LabelScript second = new LabelScript();
        Checks.due("the second one", Checks.everything(second), Checks.everything(new LabelScript()));
        Checks.due("the first one's forms", Checks.outcome(first, "^L9,9^U0^U7^T^V0^;^T^V9^;^E"), "labels 1");
    }
}
