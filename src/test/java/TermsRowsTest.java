/** Terms, the paragraph FORMS and VARIABLES. */
public final class TermsRowsTest {
    private static final String TERMS = "Terms, FORMS";

    public static void main(String[] args) {
        formsOfUpTo400();
        variablesOfUpTo200();
        whichThereAre();
        emptyAtFirst();
        theyStay();
        Checks.end();
    }

    private static void formsOfUpTo400() {
        Checks.sentence(TERMS, "FORMS 0 .. 7 are rows of up to 400 bytes");
        for (int size : new int[] {3, 399, 400}) {
            LabelScript x = Checks.reading("^S7^F^;^Z^S6" + " ".repeat(size - 3) + "^F7^Z^S5^I^;^Z");
            Checks.due("fault()", x.fault(), 0);
            Checks.due("a form of " + size, Checks.outcome(x, "^L9,9^U6^;^U7^U5^E"), "labels 1");
            Checks.due("its last byte counts", Checks.shown(x, 0), "4 0 0 0 0 7 1 1 []");
            Checks.due("the form behind it", Checks.shown(x, 1), "4 0 0 0 0 1 1 1 []");
            Checks.due("the form before it", Checks.shown(x, 2), "5 0 0 0 0 1 1 1 []");
        }
        LabelScript x = Checks.reading(Checks.storeAll());
        String before = Checks.stored(x);
        Checks.due("a form of 401", Checks.outcome(x, "^S6" + " ".repeat(398) + "^F7^Z"), "fault 7 at 0");
        Checks.due("the forms then", Checks.stored(x), before);
        Checks.due("a form of 4000", Checks.outcome(x, "^S6" + " ".repeat(3997) + "^F7^Z"), "fault 7 at 0");
    }

    private static void variablesOfUpTo200() {
        Checks.sentence(TERMS, "VARIABLES 0 .. 9 of up to 200");
        LabelScript x = Checks.reading(Checks.storeAll() + "^K4," + "abcd".repeat(50));
        Checks.due("fault()", x.fault(), 0);
        Checks.due("a variable of 200", Checks.outcome(x, "^L9,9^T^V3^;^T^V4^;^T^V5^;^E"), "labels 1");
        Checks.due("the variable before it", Checks.dataOf(x, 0), "v3");
        Checks.due("itself", Checks.dataOf(x, 1), "abcd".repeat(50));
        Checks.due("the variable behind it", Checks.dataOf(x, 2), "v5");
        Checks.due("a variable of 201", Checks.outcome(x, "^K5," + "x".repeat(201)), "fault 6 at 0");
        Checks.due("after it", Checks.outcome(x, "^L9,9^T^V5^;^E"), "labels 1");
        Checks.due("the old one", Checks.dataOf(x, 0), "v5");
        Checks.due("200 bytes of three each", Checks.outcome(x, "^K6," + "_7A".repeat(200)), "labels 0");
        Checks.due("after it", Checks.outcome(x, "^L9,9^T^V6^;^E"), "labels 1");
        Checks.due("these", Checks.dataOf(x, 0), "z".repeat(200));
    }

    private static void whichThereAre() {
        Checks.sentence(TERMS, "FORMS 0 .. 7 are rows of up to 400 bytes, VARIABLES 0 .. 9 of up to 200");
        LabelScript x = Checks.reading(Checks.storeAll());
        Checks.due("all forms", Checks.outcome(x, "^L9,9^U0^U1^U2^U3^U4^U5^U6^U7^E"), "labels 1");
        for (int k = 0; k <= 7; k++) {
            Checks.due("form " + k, Checks.shown(x, k), "4 0 0 0 0 1" + k + " 1 1 []");
        }
        for (int k = 0; k <= 9; k++) {
            Checks.due("use", Checks.outcome(x, "^L9,9^T^V" + k + "^;^E"), "labels 1");
            Checks.due("variable " + k, Checks.dataOf(x, 0), "v" + k);
        }
        Checks.range("^S", 0, 7, "^Z");
        Checks.range("^K", 0, 9, ",a");
        Checks.range("^L9,9^V", 0, 9, "^E");
        Checks.range("^S0^R^Z^S7^R^Z^L9,9^U", 0, 7, "^E");
    }

    private static void emptyAtFirst() {
        Checks.sentence(TERMS, "empty at first");
        for (int k = 0; k <= 7; k++) {
            Checks.dueFault("^L9,9^U" + k, 9, 5);
        }
        for (int k = 0; k <= 9; k++) {
            Checks.dueFault("^L9,9^Q^V" + k + "^;", 8, 10);
        }
    }

    private static void theyStay() {
        Checks.sentence(TERMS, "they stay from one reading to the next");
        LabelScript x = new LabelScript();
        Checks.due("storing", Checks.outcome(x, "^S7^O1,2^Z^K9,abc"), "labels 0");
        Checks.due("using", Checks.outcome(x, "^L9,9^U7^T^V9^;^E"), "labels 1");
        Checks.due("the order", Checks.shown(x, 0), "0 1 2 0 0 0 1 1 [abc]");
        Checks.due("storing others", Checks.outcome(x, "^S7^O3,4^Z^L9,9^K9,d^U7^T^V9^;^E"), "labels 1");
        Checks.due("the order then", Checks.shown(x, 0), "0 3 4 0 0 0 1 1 [d]");
        Checks.due("an empty text", Checks.outcome(x, ""), "labels 0");
        Checks.due("a fault", Checks.outcome(x, "x"), "fault 1 at 0");
        Checks.due("using them still", Checks.outcome(x, "^L9,9^U7^T^V9^;^E"), "labels 1");
        Checks.due("the same order", Checks.shown(x, 0), "0 3 4 0 0 0 1 1 [d]");
        Checks.due("storing empty ones", Checks.outcome(x, "^S7^Z^K9,"), "labels 0");
        Checks.due("an empty form", Checks.outcome(x, "^L9,9^U7"), "fault 9 at 5");
        Checks.due("an empty variable", Checks.outcome(x, "^L9,9^T^Xa^V9^;"), "fault 8 at 13");
    }
}
