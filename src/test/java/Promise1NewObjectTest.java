/** Promise 1: an empty text, empty forms and variables; nothing was read. */
public final class Promise1NewObjectTest {
    public static void main(String[] args) {
        LabelScript x = new LabelScript();
        Checks.due("fault()", x.fault(), 0);
        Checks.due("place()", x.place(), LabelScript.NONE);
        for (int what = 0; what <= 3; what++) {
            Checks.due("label(0, " + what + ")", x.label(0, what), LabelScript.NONE);
        }
        Checks.due("order(0, 0)", Checks.thrownBy(() -> x.order(0, 0)), "IndexOutOfBoundsException");
        Checks.due("data(0, 0)", Checks.thrownBy(() -> x.data(0, 0)), "IndexOutOfBoundsException");
        Checks.due("wipe()", x.wipe(), 0);
        Checks.due("read()", x.read(), 0);
        for (int k = 0; k <= 7; k++) {
            Checks.dueFault("^L9,9^U" + k + "^E", 9, 5);
        }
        for (int k = 0; k <= 9; k++) {
            Checks.dueFault("^L9,9^T^V" + k + "^;^E", 8, 10);
        }
        forms();
        Checks.end();
    }

    private static void forms() {
        LabelScript first = Checks.reading("^S2^F^;^Z^K3,abc");
        LabelScript second = new LabelScript();
        Checks.due("a form of another object", Checks.outcome(second, "^L9,9^U2^E"), "fault 9 at 5");
        Checks.due("a variable of another object", Checks.outcome(second, "^L9,9^T^V3^;^E"), "fault 8 at 10");
        Checks.due("the object's own", Checks.outcome(first, "^L9,9^U2^T^V3^;^E"), "labels 1");
    }
}
