/** Promise 4: the text is read; the answer is how many labels come of it, or NONE. */
public final class Promise4ReadTest {
    public static void main(String[] args) {
        countsOfLabels();
        blanksBetweenCommands();
        theTextStays();
        numbersLeftOut();
        rowsStayFromReadingToReading();
        whatStaysAfterAFault();
        formsThatUseOthers();
        aFieldGoesOnThroughForms();
        whatALabelBeginsWith();
        aFormEndsWhatBelongsToItsCommands();
        Checks.end();
    }

    private static void countsOfLabels() {
        Checks.dueLabels("", 0);
        Checks.dueLabels(" \n\t\0", 0);
        Checks.dueLabels("^K1,a", 0);
        Checks.dueLabels("^L1,1^E", 1);
        Checks.dueLabels("^L1024,1024^E^L1,1^E", 2);
        Checks.dueLabels("^L1,1^C12^E", 12);
        Checks.dueLabels("^L1,1^C5^E^L1,1^C7^E", 12);
        Checks.dueLabels("^L1,1^C5^C2^E", 2);
        Checks.dueLabels("^L1,1^C5^C^E", 1);
        Checks.dueLabels("^L1,1^C5^E^L1,1^E", 6);
    }

    private static void blanksBetweenCommands() {
        Checks.dueLabels(" ^L5,5 \n^H1,2\0^R ^F1 ^;\u001f^E ", 1);
        Checks.dueLabels("^S1^F^;^Z ^K1,a^L5,5 ^U1 ^E\n", 1);
        Checks.dueOrders("^X a ^T^;", "0 0 0 0 0 0 1 1 [ a ]");
        Checks.dueFault("^L5,5^F1 ,2^;^E", 1, 9);
        Checks.dueFault("^ L5,5^E", 2, 0);
        Checks.dueFault("^L 5,5^E", 5, 0);
        Checks.dueFault("^K1 ,a", 4, 0);
    }

    private static void theTextStays() {
        LabelScript x = new LabelScript();
        Checks.add(x, "^L5,5");
        Checks.due("read()", x.read(), LabelScript.NONE);
        Checks.add(x, "^F^;^E");
        Checks.due("read() of more", x.read(), 1);
        Checks.due("read() once more", x.read(), 1);
        Checks.due("its order", Checks.shown(x, 0), "4 0 0 0 0 1 1 1 []");
        Checks.due("wipe()", x.wipe(), 11);
    }

    private static void numbersLeftOut() {
        Checks.dueOrders("^O7^F^;", "4 7 0 0 0 1 1 1 []");
        Checks.dueOrders("^O7,^F,^;", "4 7 0 0 0 1 1 1 []");
        Checks.dueOrders("^O,7^F,,9^;", "4 0 7 0 0 1 1 9 []");
        Checks.dueOrders("^O,^F,2,^;", "4 0 0 0 0 1 2 1 []");
        Checks.dueOrders("^O-7,-00008^F00003,02^;", "4 -7 -8 0 0 3 2 1 []");
        Checks.dueOrders("^O-0,0^F^;", "4 0 0 0 0 1 1 1 []");
        Checks.dueOrders("^D2,3,4,1^D,5^T^Xa^;", "0 0 0 0 0 0 5 1 [a]");
        Checks.dueOrdersOf("^K,abc^L9,9^V0^T^;^E", "0 0 0 0 0 0 1 1 [abc]");
        Checks.dueOrdersOf("^K0,abc^L9,9^V^T^;^E", "0 0 0 0 0 0 1 1 [abc]");
        Checks.dueOrdersOf("^S^F^;^Z^L9,9^U0^E", "4 0 0 0 0 1 1 1 []");
        Checks.dueOrdersOf("^S0^F^;^Z^L9,9^U^E", "4 0 0 0 0 1 1 1 []");
    }

    private static void rowsStayFromReadingToReading() {
        LabelScript x = new LabelScript();
        Checks.due("storing", Checks.outcome(x, "^S7^O1,2^Z^K9,abc"), "labels 0");
        Checks.due("using", Checks.outcome(x, "^L9,9^U7^T^V9^;^E"), "labels 1");
        Checks.due("the order", Checks.shown(x, 0), "0 1 2 0 0 0 1 1 [abc]");
        Checks.due("storing others", Checks.outcome(x, "^S7^O3,4^Z^L9,9^K9,d^U7^T^V9^;^E"), "labels 1");
        Checks.due("the order then", Checks.shown(x, 0), "0 3 4 0 0 0 1 1 [d]");
        Checks.due("storing empty ones", Checks.outcome(x, "^S7^Z^K9,"), "labels 0");
        Checks.due("an empty form", Checks.outcome(x, "^L9,9^U7"), "fault 9 at 5");
        Checks.due("an empty variable", Checks.outcome(x, "^L9,9^T^Xa^V9^;"), "fault 8 at 13");
    }

    private static void whatStaysAfterAFault() {
        LabelScript x = new LabelScript();
        Checks.due("a good one", Checks.outcome(x, "^L9,9^F^;^E"), "labels 1");
        Checks.due("then a fault", Checks.outcome(x, "^S1^F^;^Z^K1,a^L9,9^F^;^E^K2,b^Y^K3,c"), "fault 2 at 30");
        Checks.due("no label", x.label(0, 0), LabelScript.NONE);
        Checks.due("no order", Checks.thrownBy(() -> x.order(0, 0)), "IndexOutOfBoundsException");
        Checks.due("what was stored before", Checks.outcome(x, "^L9,9^U1^V1^T^;^V2^T^;^E"), "labels 1");
        Checks.due("what stands behind", Checks.outcome(x, "^L9,9^V3^T^;^E"), "fault 8 at 10");
        Checks.due("K with a fault", Checks.outcome(x, "^K1,zz_4"), "fault 6 at 0");
        Checks.due("S with a fault", Checks.outcome(x, "^S1^R"), "fault 7 at 0");
        Checks.due("both are as they were", Checks.outcome(x, "^L9,9^U1^V1^T^;^E"), "labels 1");
        Checks.due("the variable", Checks.dataOf(x, 1), "a");
    }

    private static void formsThatUseOthers() {
        String forms = "^S0^U1^F1^;^Z^S1^U2^F2^;^Z^S2^U3^F3^;^Z^S3^F4^;^Z";
        Checks.dueOrdersOf(forms + "^L9,9^U0^F5^;^E",
            "4 0 0 0 0 4 1 1 []", "4 0 0 0 0 3 1 1 []", "4 0 0 0 0 2 1 1 []", "4 0 0 0 0 1 1 1 []",
            "4 0 0 0 0 5 1 1 []");
        Checks.dueFault("^S4^U0^Z" + forms + "^L9,9^U4^E", 9, 62);
        Checks.dueLabels("^S1^K1,x^Z^L9,9^U1^T^V1^;^E", 1);
        Checks.dueOrdersOf("^S1^^Z^S1 ^Z^L9,9^U1^E");
    }

    private static void aFieldGoesOnThroughForms() {
        Checks.dueOrdersOf("^S1^O3,4^R^Z^S2^;^D1^H1,1^Z^L9,9^F2^U1^U2^T^Xa^;^E",
            "4 3 4 0 2 2 1 1 []", "0 1 1 0 0 1 1 1 [a]");
        Checks.dueOrdersOf("^S1^Xab^Z^L9,9^T^U1^;^E", "0 0 0 0 0 0 1 1 [ab]");
    }

    private static void whatALabelBeginsWith() {
        Checks.dueOrdersOf("^L9,9^H5,6^C2^D1,2,3,1^O7,8^R^#1^X1^T^;^F^R^O5^E^L9,9^T^Xa^;^E",
            "0 12 14 1 2 1 2 3 [1]", "0 12 14 1 2 1 2 3 [2]", "0 0 0 0 0 0 1 1 [a]");
        Checks.dueOrders("^O7,8^R^#1^X1^Q^;^F^;", "3 7 8 0 2 2 1 -1 [1]", "4 0 0 0 0 1 1 1 []");
        Checks.dueFault("^L9,9^X1^T^;^T^;", 8, 14);
        Checks.dueFault("^L9,9^F^;^;", 3, 9);
    }

    private static void aFormEndsWhatBelongsToItsCommands() {
        Checks.dueFault("^S1^O1^Z^L9,9^U1,2", 4, 13);
        Checks.dueFault("^S1^O1^Z^L9,9^U1 ,2", 1, 17);
        Checks.dueFault("^S1^Xab^Z^L9,9^U1cd", 1, 17);
        Checks.dueFault("^S1^X_4^Z^L9,9^U1 1", 6, 14);
        Checks.dueFault("^S1^^Z^L9,9^U1 O1", 2, 11);
        Checks.dueFault("^S1^O-^Z^L9,9^U1 1", 4, 13);
    }
}
