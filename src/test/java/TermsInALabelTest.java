/** Terms, the paragraph IN A LABEL: E, H, C, D, U, and what a label and a field begin with. */
public final class TermsInALabelTest {
    private static final String TERMS = "Terms, IN A LABEL";

    public static void main(String[] args) {
        endsIt();
        aFieldThatHasNoEndIsDropped();
        home();
        copies();
        texts();
        aFormIsReadToItsEnd();
        aFormCanUseOthers();
        aFieldGoesOnThroughForms();
        whatALabelBeginsWith();
        whatAFieldBeginsWith();
        Checks.end();
    }

    private static void endsIt() {
        Checks.sentence(TERMS, "E ends it, but not within a form");
        Checks.dueLabels("^L9,9^E", 1);
        Checks.dueFault("^L9,9^E^E", 3, 7);
        Checks.dueFault("^L9,9^L9,9^E", 3, 5);
        Checks.dueFault("^L9,9^S1^Z^E", 3, 5);
        Checks.dueFault("^S1^E^Z^L9,9^U1", 3, 12);
        Checks.dueFault("^S1^E^Z^S2^U1^Z^L9,9^U2", 3, 20);
        Checks.dueLabels("^S1^R^Z^L9,9^U1^E", 1);
    }

    private static void aFieldThatHasNoEndIsDropped() {
        Checks.sentence(TERMS, "(a field that has begun and has no ; yet is dropped; a label may be without orders)");
        Checks.dueOrders("");
        Checks.dueOrders("^F");
        Checks.dueOrders("^O5,5^R^#1^Xa^T");
        Checks.dueOrders("^F^;^I", "4 0 0 0 0 1 1 1 []");
        Checks.dueOrdersOf("^L9,9^O5,5^R^#1^X7^T^E^L9,9^C2^F^;^E", "4 0 0 0 0 1 1 1 []", "4 0 0 0 0 1 1 1 []");
        Checks.dueFault("^L9,9^F^E^L9,9^;", 3, 14);
        Checks.dueFault("^L9,9^Xa^E^L9,9^T^;", 8, 17);
    }

    private static void home() {
        Checks.sentence(TERMS, "H x, y: HOME");
        Checks.dueOrders("^H4096,-4096^F^;^H-4096,4096^F^;", "4 4096 -4096 0 0 1 1 1 []",
            "4 -4096 4096 0 0 1 1 1 []");
        Checks.range("^L9,9^H", -4096, 4096, "^E");
        Checks.range("^L9,9^H1,", -4096, 4096, "^E");
    }

    private static void copies() {
        Checks.sentence(TERMS, "C n: the label is made in n copies, 1 .. 12 [1]");
        Checks.range("^L9,9^C", 1, 12, "^E");
        for (int n = 1; n <= 12; n++) {
            Checks.dueLabels("^L9,9^C" + n + "^E", n);
        }
        Checks.dueLabels("^L9,9^C^E", 1);
        Checks.dueLabels("^L9,9^C5^C^E", 1);
        Checks.dueLabels("^L9,9^C5^C2^E", 2);
        Checks.dueLabels("^L9,9^F^;^C5^F^;^E", 5);
        Checks.dueLabels("^L9,9^F^;^E^L9,9^F^;^C5^E", 6);
    }

    private static void texts() {
        Checks.sentence(TERMS, "D f, p, q, r: font, scales and quarter of texts [0, 1, 1, 0] from there on");
        Checks.dueOrders("^T^Xa^;^D3,10,10,3^T^Xa^;^D0,1,1,0^T^Xa^;", "0 0 0 0 0 0 1 1 [a]", "0 0 0 3 0 3 10 10 [a]",
            "0 0 0 0 0 0 1 1 [a]");
        Checks.dueOrders("^D1,2,3,1^T^Xa^D2,4,5,2^;^T^Xb^;", "0 0 0 1 0 1 2 3 [a]", "0 0 0 2 0 2 4 5 [b]");
        Checks.dueOrders("^D1,2,3,1^D^T^Xa^;", "0 0 0 0 0 0 1 1 [a]");
    }

    private static void aFormIsReadToItsEnd() {
        Checks.sentence(TERMS, "U k: form k is read there, to its end (where all that belongs to a command of it ends, "
            + "too)");
        Checks.dueOrdersOf("^S1^F2^;^F3^;^Z^L9,9^F1^;^U1^F4^;^E", "4 0 0 0 0 1 1 1 []", "4 0 0 0 0 2 1 1 []",
            "4 0 0 0 0 3 1 1 []", "4 0 0 0 0 4 1 1 []");
        Checks.dueFault("^S1^O1^Z^L9,9^U1,2", 4, 13);
        Checks.dueFault("^S1^O1^Z^L9,9^U1 ,2", 1, 17);
        Checks.dueFault("^S1^O1^Z^L9,9^U1 2", 1, 17);
        Checks.dueFault("^S1^O-^Z^L9,9^U1 1", 4, 13);
        Checks.dueFault("^S1^Xab^Z^L9,9^U1cd", 1, 17);
        Checks.dueFault("^S1^X_4^Z^L9,9^U1 1", 6, 14);
        Checks.dueFault("^S1^K1^Z^L9,9^U1 ,a", 4, 13);
        Checks.dueFault("^S1^^Z^L9,9^U1 O1", 2, 11);
        Checks.dueData("^S1^Xab^Z^L9,9^T^U1\n^;^E", "ab");
        Checks.dueData("^S1^X^Z^S2^X1^Z^L9,9^T^U1^U2^;^E", "1");
        Checks.dueFault("^S1^X^Z^L9,9^T^U1^;^E", 8, 17);
        Checks.dueOrdersOf("^S1^O7^Z^L9,9^F^U1^;^E", "4 7 0 0 0 1 1 1 []");
    }

    private static void aFormCanUseOthers() {
        Checks.sentence(TERMS, "and it can use others");
        String forms = "^S0^U1^F1^;^Z^S1^U2^F2^;^Z^S2^U3^F3^;^Z^S3^F4^;^Z";
        Checks.dueOrdersOf(forms + "^L9,9^U0^F5^;^E", "4 0 0 0 0 4 1 1 []", "4 0 0 0 0 3 1 1 []",
            "4 0 0 0 0 2 1 1 []", "4 0 0 0 0 1 1 1 []", "4 0 0 0 0 5 1 1 []");
        Checks.dueOrdersOf("^S0^F1^;^U1^F2^;^U1^F3^;^Z^S1^I^;^Z^L9,9^U0^E", "4 0 0 0 0 1 1 1 []",
            "5 0 0 0 0 1 1 1 []", "4 0 0 0 0 2 1 1 []", "5 0 0 0 0 1 1 1 []", "4 0 0 0 0 3 1 1 []");
    }

    private static void aFieldGoesOnThroughForms() {
        Checks.sentence(TERMS, "(a field goes on through them)");
        Checks.dueOrdersOf("^S1^O3,4^R^Z^S2^;^D1^H1,1^Z^L9,9^F2^U1^U2^T^Xa^;^E", "4 3 4 0 2 2 1 1 []",
            "0 1 1 0 0 1 1 1 [a]");
        Checks.dueOrdersOf("^S1^F^O5^Z^L9,9^R^U1^;^E", "4 5 0 0 2 1 1 1 []");
        Checks.dueOrdersOf("^S1^C2^Z^L9,9^F^;^U1^E", "4 0 0 0 0 1 1 1 []", "4 0 0 0 0 1 1 1 []");
    }

    private static void whatALabelBeginsWith() {
        Checks.sentence(TERMS, "At the beginning of a label home is (0, 0), the copies 1, texts 0, 1, 1, 0");
        Checks.dueOrdersOf("^L9,9^H5,6^C2^D1,2,3,1^O7,8^R^#1^X1^T^;^F^R^O5^E^L9,9^T^Xa^;^E",
            "0 12 14 1 2 1 2 3 [1]", "0 12 14 1 2 1 2 3 [2]", "0 0 0 0 0 0 1 1 [a]");
        Checks.dueOrders("^T^Xa^;^W9^Xb^;^B,,,1^Xc^;", "0 0 0 0 0 0 1 1 [a]", "0 0 0 0 0 0 1 1 [b]",
            "1 0 0 0 0 2 50 0 [c]", "0 0 53 0 0 0 1 1 [c]");
        LabelScript x = Checks.reading("^L9,9^H5,6^C2^D1,2,3,1");
        Checks.due("the next reading", Checks.outcome(x, "^L9,9^T^Xa^;^E"), "labels 1");
        Checks.due("its order", Checks.shown(x, 0), "0 0 0 0 0 0 1 1 [a]");
    }

    private static void whatAFieldBeginsWith() {
        Checks.sentence(TERMS, "a field has the origin (0, 0), no kind, no data, is not turned over, "
            + "and does not count on");
        Checks.dueOrdersOf("^L9,9^C2^O7,8^R^#1^X1^Q^;^T^X5^;^E", "3 7 8 0 2 2 1 -1 [1]", "0 0 0 0 0 0 1 1 [5]",
            "3 7 8 0 2 2 1 -1 [2]", "0 0 0 0 0 0 1 1 [5]");
        Checks.dueFault("^L9,9^X1^T^;^T^;", 8, 14);
        Checks.dueFault("^L9,9^F^;^;", 3, 9);
        Checks.dueFault("^L9,9^;", 3, 5);
        Checks.inLabel("^#1^X1^F^;^Xa^F^;", 0);
        LabelScript x = Checks.reading("^L9,9^O7,8^R^#1^X1^Q");
        Checks.due("the next reading", Checks.outcome(x, "^L9,9^;"), "fault 3 at 5");
    }
}
