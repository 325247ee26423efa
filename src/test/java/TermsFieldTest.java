/** Terms, the paragraph Of a FIELD: what a field is told, its kinds, and its end. */
public final class TermsFieldTest {
    private static final String TERMS = "Terms, Of a FIELD";

    public static void main(String[] args) {
        itsOrigin();
        turnedOver();
        dataOfAVariable();
        countsOn();
        laterOnesCount();
        aText();
        aBlock();
        bars();
        squaresAndOthers();
        aLaterKindCounts();
        theEndOfAField();
        Checks.end();
    }

    private static void itsOrigin() {
        Checks.sentence(TERMS, "O x, y: its origin");
        Checks.dueOrders("^O4096,-4096^F^;", "4 4096 -4096 0 0 1 1 1 []");
        Checks.dueOrders("^F^O-4096,4096^;", "4 -4096 4096 0 0 1 1 1 []");
    }

    private static void turnedOver() {
        Checks.sentence(TERMS, "R: it is turned over (once more: still)");
        Checks.dueOrders("^F^;^R^F^;^F^R^R^;^R^R^R^F^;", "4 0 0 0 0 1 1 1 []", "4 0 0 0 2 1 1 1 []",
            "4 0 0 0 2 1 1 1 []", "4 0 0 0 2 1 1 1 []");
    }

    private static void dataOfAVariable() {
        Checks.sentence(TERMS, "X, and data right behind it, or V k: its data, those of variable k as they are then");
        Checks.dueData("^K1,v^L9,9^T^V1^K1,w^;^T^V1^;^E", "v", "w");
        Checks.dueData("^K0,a^K9,b^L9,9^T^V0^;^T^V9^;^E", "a", "b");
        Checks.dueData("^L9,9^T^X a^;^T^X1,2^;^E", " a", "1,2");
        Checks.dueData("^K1," + "v".repeat(200) + "^L9,9^T^V1^;^E", "v".repeat(200));
    }

    private static void countsOn() {
        Checks.sentence(TERMS, "# s: it counts on by s, -99 .. 99 (also by 0)");
        Checks.range("^L9,9^#", -99, 99, "^E");
        Checks.dueData("^L9,9^C2^#99^T^X000^;^#-99^T^X999^;^#0^T^X5^;^#^T^X5^;^E", "000", "999", "5", "5", "099", "900",
            "5", "5");
        Checks.inLabel("^#0^T^Xa^;", 8);
        Checks.inLabel("^#^T^Xa^;", 8);
        Checks.inLabel("^T^Xa^;", 0);
    }

    private static void laterOnesCount() {
        Checks.sentence(TERMS, "A later O, X or V (one for the other), or # counts in place of an earlier one.");
        Checks.dueOrders("^O1,2^O3^F^;", "4 3 0 0 0 1 1 1 []");
        Checks.dueData("^K1,v^L9,9^Xa^Xb^T^;^Xa^V1^T^;^V1^Xb^T^;^V1^V1^T^;^E", "b", "v", "b", "v");
        Checks.dueData("^K1,v^L9,9^Xlonger^Xb^T^;^Xlonger^V1^T^;^E", "b", "v");
        Checks.inLabel("^Xa^X^T^;", 8);
        Checks.inLabel("^Xa^V1^T^;", 8);
        Checks.inLabel("^V1^Xa^T^;", 0);
        Checks.dueData("^L9,9^C2^#5^#-1^T^X7^;^#5^#^T^X7^;^E", "7", "7", "6", "7");
    }

    private static void aText() {
        Checks.sentence(TERMS, "T f, p, q, r [those of texts as they are there]: a text");
        Checks.dueOrders("^T3,10,9,3^Xa^;", "0 0 0 3 0 3 10 9 [a]");
        Checks.dueOrders("^D1,2,3,1^T,7^D2,4,5,2^Xa^;", "0 0 0 1 0 1 7 3 [a]");
        Checks.dueOrders("^T^D1,2,3,1^Xa^;", "0 0 0 0 0 0 1 1 [a]");
    }

    private static void aBlock() {
        Checks.sentence(TERMS, "a block: a text as texts are where the field ends, of at most n cells a line, 1 .. 99, "
            + "with l dots, 0 .. 999, from line to line, at the left (a = 0), the right (1) or in the middle (2), "
            + "u dots, 0 .. 999, a cell");
        Checks.dueOrders("^D1,2,3,1^W5^Xa^D2,4,5,2^;", "0 0 0 2 0 2 4 5 [a]");
        Checks.range("^L9,9^W", 1, 99, "^E");
        Checks.range("^L9,9^W1,", 0, 999, "^E");
        Checks.range("^L9,9^W1,,", 0, 2, "^E");
        Checks.range("^L9,9^W1,,,", 0, 999, "^E");
        Checks.dueOrders("^W1,999^Xab^;", "0 0 0 0 0 0 1 1 [a]", "0 0 999 0 0 0 1 1 [b]");
        Checks.dueOrders("^W1,0^Xab^;", "0 0 0 0 0 0 1 1 [a]", "0 0 0 0 0 0 1 1 [b]");
        Checks.dueOrders("^W5,0,0,999^Xa^;^W5,0,1,999^Xa^;^W5,0,2,999^Xa^;", "0 0 0 0 0 0 1 1 [a]",
            "0 3996 0 0 0 0 1 1 [a]", "0 1998 0 0 0 0 1 1 [a]");
        Checks.dueData("^L9,9^W99^X" + "a".repeat(100) + "^;^E", "a".repeat(99), "a");
    }

    private static void bars() {
        Checks.sentence(TERMS, "bars; with c = 1 and their text");
        Checks.dueOrders("^B1,1,0,0^Xa^;", "1 0 0 0 0 1 1 0 [a]");
        Checks.dueOrders("^B50,2048,3,1^Xa^;", "1 0 0 3 0 50 2048 0 [a]", "0 2051 0 3 0 0 1 1 [a]");
        Checks.inLabel("^B,,,2", 5);
        Checks.inLabel("^B,,,-1", 5);
    }

    private static void squaresAndOthers() {
        Checks.sentence(TERMS, "Q m, l, k, r [2, 1, -1, 0]: a square");
        Checks.dueOrders("^Q50,3,7,3^Xa^;^Q1,0,-1,0^Xa^;", "3 0 0 3 0 50 3 7 [a]", "3 0 0 0 0 1 0 -1 [a]");
        Checks.sentence(TERMS, "N m, h, r [2, 50, 0]: thirteen figures");
        Checks.dueOrders("^N50,2048,3^X123456789012^;", "2 0 0 3 0 50 2048 0 [123456789012]");
        Checks.sentence(TERMS, "P w [8]: a picture");
        Checks.dueOrders("^P1^X41^;^P8^X41^;", "7 0 0 0 0 1 0 0 [A]", "7 0 0 0 0 8 0 0 [A]");
    }

    private static void aLaterKindCounts() {
        Checks.sentence(TERMS, "A later one, of whichever kind, counts in place of an earlier one.");
        Checks.dueOrders("^T^F2,3,4^;", "4 0 0 0 0 2 3 4 []");
        Checks.dueOrders("^F2,3,4^F^;", "4 0 0 0 0 1 1 1 []");
        Checks.dueOrders("^B5,6,1,1^N^X123456789012^;", "2 0 0 0 0 2 50 0 [123456789012]");
        Checks.dueOrders("^B5,6,1,1^B^Xa^;", "1 0 0 0 0 2 50 0 [a]");
        Checks.dueOrders("^N^W2^Xabc^T^;", "0 0 0 0 0 0 1 1 [abc]");
        Checks.dueOrders("^T3^W2^Xabc^;", "0 0 0 0 0 0 1 1 [ab]", "0 0 0 0 0 0 1 1 [c]");
        Checks.dueOrders("^Q,,,3^P^X41^;", "7 0 0 0 0 8 0 0 [A]");
        Checks.dueOrders("^B,,,1^G^;", "6 0 0 0 0 0 0 1 []");
    }

    private static void theEndOfAField() {
        Checks.sentence(TERMS, "The command ; ends a field that has a kind: its orders are made; "
            + "the next field begins.");
        for (String kind : new String[] {"^T", "^W5", "^B", "^N", "^Q", "^F", "^I", "^G", "^P"}) {
            Checks.inLabel("^X123456789012" + kind + "^;", 0);
            Checks.inLabel("^X123456789012" + kind + "^;^;", 3);
        }
        Checks.inLabel("^;", 3);
        Checks.inLabel("^O1,1^R^X1^#1^;", 3);
        Checks.dueOrders("^O5^F^;^I^;", "4 5 0 0 0 1 1 1 []", "5 0 0 0 0 1 1 1 []");
    }
}
