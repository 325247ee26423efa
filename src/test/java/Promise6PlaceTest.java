/** Promise 6: the place of the fault; NONE when there is none. */
public final class Promise6PlaceTest {
    public static void main(String[] args) {
        LabelScript x = Checks.reading("^L9,9^E");
        Checks.due("place() without a fault", x.place(), LabelScript.NONE);
        Checks.readAlone(x, "  x");
        Checks.due("place() of a fault", x.place(), 2);
        x.wipe();
        Checks.due("place() after wipe()", x.place(), 2);
        x.read();
        Checks.due("place() after a good reading", x.place(), LabelScript.NONE);

        Checks.dueFault("^L9,9 x", 1, 6);
        Checks.dueFault("^L9,9\n\n^Y", 2, 7);
        Checks.dueFault("^L9,9^", 2, 5);
        Checks.dueFault("^K1,abc ^E", 3, 8);
        Checks.dueFault(" ^L9,9,", 4, 1);
        Checks.dueFault("^L9,9^C2^C13", 5, 8);
        Checks.dueFault("^L9,9^Xabc_^R", 6, 5);
        Checks.dueFault("^K1,a^S1^F", 7, 5);
        Checks.dueFault("^L9,9^T ^;", 8, 8);
        Checks.dueFault("^L9,9 ^U1", 9, 6);
        Checks.dueFault("^L9,9^C12^E ^L9,9^E", 10, 17);
        Checks.dueFault("^L9,9", 11, 5);
        Checks.dueFault("^L9,9^F^; \n", 11, 11);
        Checks.dueFault("^L9,9^Xabc", 11, 10);

        withinForms();
        full();
        Checks.end();
    }

    private static void withinForms() {
        Checks.dueFault("^S1 ^R ^U2 ^Z^S2x^Z^L9,9 ^R ^U1 ^E", 1, 28);
        Checks.dueFault("^S1 ^R ^U2 ^Z^S2^Y^Z^L9,9^U1^E", 2, 25);
        Checks.dueFault("^S1^R^Z^L9,9^U1^U1^U2", 9, 18);
        Checks.dueFault("^S1^R^Z^L9,9^U1^U1 y", 1, 19);
        Checks.dueFault("^S1^R^Z^S2^U1x^Z^L9,9^U1^U2^U1", 1, 24);
        Checks.dueFault("^S1^R^Z^L9,9^U1^U1", 11, 18);
        Checks.dueFault("^S1^T^Z^L9,9^U1^;", 8, 15);
        Checks.dueFault("^S1^;^Z^L9,9^T^U1", 8, 14);
        LabelScript x = Checks.reading("^S5^U5^Z");
        Checks.due("a form of an earlier reading", Checks.outcome(x, "^L9,9  ^U5"), "fault 9 at 7");
    }

    private static void full() {
        Checks.dueFault("^L9,9" + " ".repeat(4091), 11, 4096);
        Checks.dueFault(" ".repeat(4095) + "^", 2, 4095);
    }
}
