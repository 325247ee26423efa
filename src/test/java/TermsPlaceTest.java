/** Terms, the paragraph on the PLACE of a fault. */
public final class TermsPlaceTest {
    private static final String TERMS = "Terms, The PLACE of a fault";

    public static void main(String[] args) {
        ofItsCommand();
        ofTheByte();
        theEnd();
        withinAForm();
        Checks.end();
    }

    private static void ofItsCommand() {
        Checks.sentence(TERMS, "is that of its ^");
        Checks.dueFault("^", 2, 0);
        Checks.dueFault("^L9,9\n\n^Y", 2, 7);
        Checks.dueFault("^L9,9^", 2, 5);
        Checks.dueFault("^K1,abc ^E", 3, 8);
        Checks.dueFault(" ^L9,9,", 4, 1);
        Checks.dueFault("^L9,9^C2^C13", 5, 8);
        Checks.dueFault("^L9,9^Xabc_^R", 6, 5);
        Checks.dueFault("^K1,a^S1^F", 7, 5);
        Checks.dueFault("^L9,9^T ^;", 8, 8);
        Checks.dueFault("^L9,9 ^U1", 9, 6);
        Checks.dueFault("^L9,9^C12^E ^L9,9 ^E", 10, 18);
        Checks.dueFault("^S1^R^Z ^Z", 2, 8);
        Checks.dueFault(" ".repeat(4079) + "^", 2, 4079);
        Checks.dueFault(" ".repeat(4095) + "^", 2, 4095);
    }

    private static void ofTheByte() {
        Checks.sentence(TERMS, "of the byte (fault 1)");
        Checks.dueFault("x", 1, 0);
        Checks.dueFault("^L9,9 x", 1, 6);
        Checks.dueFault("^L9,9x", 1, 5);
        Checks.dueFault("^L9,9^O1-2", 1, 8);
        Checks.dueFault("^L9,9^F^;\n\n;", 1, 11);
        Checks.dueFault("^S1^R^Zx", 1, 7);
    }

    private static void theEnd() {
        Checks.sentence(TERMS, "or the end (fault 11)");
        Checks.dueFault("^L9,9", 11, 5);
        Checks.dueFault("^L9,9^F^; \n", 11, 11);
        Checks.dueFault("^L9,9^Xabc", 11, 10);
        Checks.dueFault("^S1^R^Z^L9,9^U1^U1", 11, 18);
        Checks.dueFault("^S1^R^Z^L9,9^U1 ", 11, 16);
        Checks.dueFault("^L9,9" + " ".repeat(4091), 11, 4096);
    }

    private static void withinAForm() {
        Checks.sentence(TERMS, "within a form, that of the ^ of the outermost U");
        Checks.dueFault("^S1 ^R ^U2 ^Z^S2x^Z^L9,9 ^R ^U1 ^E", 1, 28);
        Checks.dueFault("^S1 ^R ^U2 ^Z^S2^Y^Z^L9,9^U1^E", 2, 25);
        Checks.dueFault("^S1 ^R^E^Z^L9,9^U1^E", 3, 15);
        Checks.dueFault("^S1 ^R^O,,^Z^L9,9^U1^E", 4, 17);
        Checks.dueFault("^S1 ^R^C13^Z^L9,9^U1^E", 5, 17);
        Checks.dueFault("^S1 ^R^X_^Z^L9,9^U1^E", 6, 16);
        Checks.dueFault("^S1^T^;^Z^L9,9^R^U1", 8, 16);
        Checks.dueFault("^S1^R^U2^Z^L9,9^R^U1", 9, 17);
        Checks.dueFault("^S1" + "^F^;".repeat(61) + "^Z^L9,9^U1^U1", 10, 257);
        Checks.dueFault("^S1^R^Z^S2^U1x^Z^L9,9^U1^U2^U1", 1, 24);
        Checks.dueFault("^S1^;^Z^L9,9^T^U1", 8, 14);
        Checks.dueFault("^S0^U1^Z^S1^U2^Z^S2^U3^Z^S3^Y^Z^L9,9^R^U0", 2, 38);
        Checks.dueFault("^S5^U5^Z^L9,9 ^U5", 9, 14);
        LabelScript x = Checks.reading("^S5^U5^Z");
        Checks.due("a form of an earlier reading", Checks.outcome(x, "^L9,9  ^U5"), "fault 9 at 7");
        // Behind the form the places are those of the text again.
        Checks.dueFault("^S1^R^Z^L9,9^U1^U1^U2", 9, 18);
        Checks.dueFault("^S1^R^Z^L9,9^U1^U1 y", 1, 19);
        Checks.dueFault("^S1^T^Z^L9,9^U1^;", 8, 15);
    }
}
