/** Terms, the paragraph OUTSIDE a label: S, K and L. */
public final class TermsOutsideTest {
    private static final String TERMS = "Terms, OUTSIDE a label";

    public static void main(String[] args) {
        aFormUpToTheNextZ();
        withWhatItCannotBegin();
        aVariable();
        kInALabelToo();
        theSizeOfALabel();
        whatCannotStandOutside();
        Checks.end();
    }

    /** What form 1 draws when the text has made it. */
    private static void dueForm(String text, String... lines) {
        Checks.dueOrdersOf(text + "^L9,9^U1^E", lines);
    }

    private static void aFormUpToTheNextZ() {
        Checks.sentence(TERMS, "S k, and then all bytes up to the next ^Z: these become form k");
        dueForm("^S1^F7^;^Z", "4 0 0 0 0 7 1 1 []");
        dueForm("^S1\n ^F7 ^; \0^Z", "4 0 0 0 0 7 1 1 []");
        dueForm("^S1^T^XZ^;^Z", "0 0 0 0 0 0 1 1 [Z]");
        dueForm("^S1^T^X\u0000\u00ff\u0080_5EZ^;^Z", "0 0 0 0 0 0 1 1 [\u0000\u00ff\u0080^Z]");
        dueForm("^S1^F^;^Z^S1^I^;^Z", "5 0 0 0 0 1 1 1 []");
        dueForm("^S1^F^;^I^;^I^;^Z^S1^I^;^Z", "5 0 0 0 0 1 1 1 []");
        dueForm("^S1 ^Z");
        Checks.dueFault("^S1^F^;^z^Z^L9,9^U1^E", 2, 16);
        Checks.dueFault("^S1^^Z^L9,9^U1^E", 2, 11);
        Checks.dueFault("^S1^Z^L9,9^U1^E", 9, 10);
        Checks.dueFault("^S1^F^;^Z^S1^Z^L9,9^U1^E", 9, 19);
        Checks.dueFault("^S1^F^;^Z^Z", 2, 9);
        Checks.dueLabels("^S1^Y x ^L0,0 ^X_^Z", 0);
        Checks.dueFault("^S1^S2^Z^Z", 2, 8);
    }

    private static void withWhatItCannotBegin() {
        Checks.sentence(TERMS, "(they cannot begin with a figure or a comma)");
        dueForm("^S00001^F^;^Z", "4 0 0 0 0 1 1 1 []");
        Checks.dueFault("^S000001^Z", 4, 0);
        Checks.dueFault("^S11^Z", 5, 0);
        Checks.dueFault("^S1,^Z", 4, 0);
        Checks.dueFault("^S,^Z", 4, 0);
        Checks.dueLabels("^S1-1^Z", 0);
        Checks.dueFault("^S1-1^Z^L9,9^U1", 1, 12);
        Checks.dueLabels("^S1/^Z^S1:^Z^S1+^Z^S1.^Z", 0);
    }

    private static void aVariable() {
        Checks.sentence(TERMS, "K k, a comma (also when k is left out: variable 0), and data: "
            + "variable k becomes these");
        Checks.dueData("^K3,abc^L9,9^T^V3^;^E", "abc");
        Checks.dueData("^K,abc^L9,9^T^V0^;^E", "abc");
        Checks.dueData("^K,1,2^L9,9^T^V0^;^E", "1,2");
        Checks.dueData("^K3,,^L9,9^T^V3^;^E", ",");
        Checks.dueData("^K3,abc^K3,d^L9,9^T^V3^;^E", "d");
        Checks.dueFault("^K3,abc^K3,^L9,9^T^V3^;^E", 8, 21);
        Checks.dueFault("^K", 4, 0);
        Checks.dueFault("^K3", 4, 0);
        Checks.dueFault("^K3^L9,9^E", 4, 0);
        Checks.dueFault("^Kabc", 4, 0);
        Checks.dueFault("^K3;abc", 4, 0);
    }

    private static void kInALabelToo() {
        Checks.sentence(TERMS, "(here, and in a label, too)");
        Checks.dueData("^L9,9^K3,abc^T^V3^;^E", "abc");
        Checks.dueData("^K3,a^L9,9^T^V3^;^K3,b^T^V3^;^E^L9,9^T^V3^;^E", "a", "b", "b");
        Checks.dueData("^S1^K3,abc^Z^L9,9^U1^T^V3^;^E", "abc");
        Checks.dueData("^L9,9^T^Xa^K3,b^;^E", "a");
    }

    private static void theSizeOfALabel() {
        Checks.sentence(TERMS, "L w, h: begins a label of w times h dots, 1 .. 1024 each");
        Checks.range("^L", 1, 1024, ",1^E");
        Checks.range("^L1,", 1, 1024, "^E");
        LabelScript x = Checks.reading("^L1,1024^E^L1024,1^E");
        Checks.due("width", x.label(0, 0), 1);
        Checks.due("height", x.label(0, 1), 1024);
        Checks.due("width of the second", x.label(1, 0), 1024);
        Checks.due("height of the second", x.label(1, 1), 1);
        Checks.fault("^L-1,1^E", 5);
        Checks.fault("^L", 5);
        Checks.dueFault("^L9,9", 11, 5);
    }

    private static void whatCannotStandOutside() {
        Checks.sentence(TERMS, "OUTSIDE a label");
        for (char c : "EHCDUORXV#TWBNQFIGP;".toCharArray()) {
            Checks.dueFault("^" + c, 3, 0);
            Checks.dueFault("^L9,9^E^" + c, 3, 7);
        }
        Checks.dueLabels("^L9,9^E^S1^Z^K1,a^L9,9^E", 2);
    }
}
