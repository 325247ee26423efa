/** Terms, the paragraph COPIES: labels one behind the other, and fields that count on. */
public final class TermsCopiesTest {
    private static final String TERMS = "Terms, COPIES";

    public static void main(String[] args) {
        theSameOrders();
        theDigitsWithWhichItEnds();
        atMostNine();
        inEachCopy();
        withAsManyDigits();
        withoutWhatIsCarried();
        notBelowZero();
        allOfItBeforeLines();
        allOfItBeforeBytesOfAPicture();
        otherKinds();
        Checks.end();
    }

    private static void theSameOrders() {
        Checks.sentence(TERMS, "the labels of all copies, one behind the other, have the same orders");
        LabelScript x = Checks.reading("^L7,8^E^L5,6^C3^H1,2^R^Q3,2,1,1^O1^Xa7^;^I3^;^E^L3,4^F^;^E");
        Checks.due("all of them", Checks.seen(x), "fault 0 at -1\nlabel 7 8 0 0\nlabel 5 6 0 2\nlabel 5 6 2 2\n"
            + "label 5 6 4 2\nlabel 3 4 6 1\n3 2 2 1 2 3 2 1 [a7]\n5 1 2 0 0 3 1 1 []\n3 2 2 1 2 3 2 1 [a7]\n"
            + "5 1 2 0 0 3 1 1 []\n3 2 2 1 2 3 2 1 [a7]\n5 1 2 0 0 3 1 1 []\n4 0 0 0 0 1 1 1 []\n"
            + "order behind them: IndexOutOfBoundsException\n");
        Checks.dueData("^L9,9^C2^#1^T^X1^;^T^X5^;^#-1^T^X5^;^E", "1", "5", "5", "2", "5", "4");
        Checks.dueData("^L9,9^#1^T^X1^;^C2^E", "1", "2");
        Checks.dueData("^L9,9^#1^T^X1^;^E^L9,9^C2^#1^T^X1^;^E", "1", "1", "2");
    }

    private static void theDigitsWithWhichItEnds() {
        Checks.sentence(TERMS, "the digits 0 .. 9 with which it ends");
        Checks.dueData("^L9,9^C2^#1^T^Xa8^;^E", "a8", "a9");
        Checks.dueData("^L9,9^C2^#1^T^X9/9^;^E", "9/9", "9/0");
        Checks.dueData("^L9,9^C2^#1^T^X9:9^;^E", "9:9", "9:0");
        Checks.dueData("^L9,9^C2^#1^T^X1 9^;^E", "1 9", "1 0");
        Checks.dueData("^L9,9^C2^#1^T^X-9^;^E", "-9", "-0");
        Checks.dueData("^L9,9^C2^#1^T^X_31_39^;^E", "19", "20");
        Checks.dueData("^K1,x19^L9,9^C2^#1^T^V1^;^T^V1^;^E", "x19", "x19", "x20", "x19");
        Checks.dueData("^L9,9^C2^#1^T^X09^;^E", "09", "10");
    }

    private static void atMostNine() {
        Checks.sentence(TERMS, "at most nine (the last ones)");
        Checks.dueData("^L9,9^C2^#1^T^X09999999^;^E", "09999999", "10000000");
        Checks.dueData("^L9,9^C2^#1^T^X099999999^;^E", "099999999", "100000000");
        Checks.dueData("^L9,9^C2^#1^T^X0999999999^;^E", "0999999999", "0000000000");
        Checks.dueData("^L9,9^C2^#1^T^X7999999999^;^E", "7999999999", "7000000000");
        Checks.dueData("^L9,9^C2^#-1^T^X7000000000^;^E", "7000000000", "7999999999");
        Checks.dueData("^L9,9^C2^#1^T^X" + "9".repeat(200) + "^;^E", "9".repeat(200),
            "9".repeat(191) + "0".repeat(9));
    }

    private static void inEachCopy() {
        Checks.sentence(TERMS, "count as a number that is s times c more in copy c = 0, 1, ..");
        LabelScript x = Checks.reading("^L9,9^C12^#99^T^X0000^;^#-99^T^X9999^;^#0^T^X5^;^E");
        for (int copy = 0; copy < 12; copy++) {
            Checks.due("99 in copy " + copy, Checks.dataOf(x, 3 * copy), String.format("%04d", 99 * copy));
            Checks.due("-99 in copy " + copy, Checks.dataOf(x, 3 * copy + 1), "" + (9999 - 99 * copy));
            Checks.due("0 in copy " + copy, Checks.dataOf(x, 3 * copy + 2), "5");
        }
        Checks.dueData("^L9,9^C1^#99^T^X5^;^E", "5");
    }

    private static void withAsManyDigits() {
        Checks.sentence(TERMS, "and is written with as many digits");
        Checks.dueData("^L9,9^C2^#1^T^Xa007^;^E", "a007", "a008");
        Checks.dueData("^L9,9^C2^#-1^T^Xa100^;^E", "a100", "a099");
        Checks.dueData("^L9,9^C2^#-1^T^X000000001^;^E", "000000001", "000000000");
    }

    private static void withoutWhatIsCarried() {
        Checks.sentence(TERMS, "without what is carried beyond");
        Checks.dueData("^L9,9^C3^#1^T^Xa8^;^E", "a8", "a9", "a0");
        Checks.dueData("^L9,9^C2^#1^T^X999^;^E", "999", "000");
        Checks.dueData("^L9,9^C3^#99^T^X5^;^E", "5", "4", "3");
        Checks.dueData("^L9,9^C2^#99^T^X99^;^E", "99", "98");
        Checks.dueData("^L9,9^C2^#99^T^Xb999999999^;^E", "b999999999", "b000000098");
    }

    private static void notBelowZero() {
        Checks.sentence(TERMS, "or with 10 to their number more as often as it takes not to be below 0");
        Checks.dueData("^L9,9^C3^#-1^T^Xa1^;^E", "a1", "a0", "a9");
        Checks.dueData("^L9,9^C3^#-99^T^X5^;^E", "5", "6", "7");
        Checks.dueData("^L9,9^C2^#-99^T^X99^;^#-99^T^X98^;^#-99^T^X00^;^E", "99", "98", "00", "00", "99", "01");
        Checks.dueData("^L9,9^C2^#-10^T^X0^;^E", "0", "0");
        Checks.dueData("^L9,9^C2^#-1^T^Xb000000000^;^E", "b000000000", "b999999999");
        LabelScript x = Checks.reading("^L9,9^C12^#-99^T^X0^;^E");
        Checks.due("-1089 in the last copy", Checks.dataOf(x, 11), "1");
    }

    private static void allOfItBeforeLines() {
        Checks.sentence(TERMS, "(all of it, before lines are cut or bytes of a picture made)");
        Checks.dueData("^L9,9^C2^#1^W2^Xa_0A1999^;^E", "a", "19", "99", "a", "20", "00");
        Checks.dueData("^L9,9^C2^#1^W1^X0999^;^E", "0", "9", "9", "9", "1", "0", "0", "0");
        Checks.dueData("^L9,9^C2^#1^W3^X9 99^;^E", "9", "99", "9", "00");
        Checks.dueData("^L9,9^C2^#1^W9^X9_0A9^;^E", "9", "9", "9", "0");
        Checks.inLabel("^C2^#1^W9^X9_0A^;", 8);
        Checks.inLabel("^C2^#1^W9^X9_0Aa^;", 8);
    }

    private static void allOfItBeforeBytesOfAPicture() {
        Checks.sentence(TERMS, "(all of it, before lines are cut or bytes of a picture made)");
        Checks.dueData("^L9,9^C2^#1^P^X4a49^;^E", "JI", "JP");
        Checks.dueData("^L9,9^C2^#1^P^X4039^;^E", "@9", "@@");
        Checks.dueData("^L9,9^C2^#1^P^X4999^;^E", "I\u0099", "P\0");
        Checks.dueData("^L9,9^C2^#1^P^Xa9^;^E", "\u00a9", "\u00a0");
        Checks.inLabel("^C2^#1^P^X9a^;", 8);
    }

    private static void otherKinds() {
        Checks.sentence(TERMS, "the data of a field that counts on");
        Checks.dueData("^L9,9^C2^#1^B,,,1^Xa9^;^E", "a9", "a9", "a0", "a0");
        Checks.dueData("^L9,9^C2^#1^N^X000999999999^;^E", "000999999999", "000000000000");
        Checks.dueData("^L9,9^C2^#1^Q^X9^;^E", "9", "0");
        Checks.dueData("^L9,9^C2^#1^F^X1^;^#1^I^X1^;^#1^G^X1^;^E", "", "", "", "", "", "");
    }
}
