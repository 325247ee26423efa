/** Promise 9: eight bytes of the data of an order, from byte i on. */
public final class Promise9DataTest {
    public static void main(String[] args) {
        places();
        wrongArguments();
        escapes();
        lines();
        pictures();
        countingOn();
        countingOnInParts();
        manyOrders();
        Checks.end();
    }

    private static void places() {
        LabelScript x = Checks.reading("^L9,9^T^X_01_02_03_04_05_06_07_88_99^;^F^Xabc^;^E");
        Checks.due("data(0, 0)", x.data(0, 0), 0x8807060504030201L);
        Checks.due("data(0, 1)", x.data(0, 1), 0x9988070605040302L);
        Checks.due("data(0, 2)", x.data(0, 2), 0x0099880706050403L);
        Checks.due("data(0, 8)", x.data(0, 8), 0x99L);
        Checks.due("data(0, 9)", x.data(0, 9), 0);
        Checks.due("data(0, 199)", x.data(0, 199), 0);
        Checks.due("data(0, 200)", x.data(0, 200), 0);
        Checks.due("data(0, -1)", x.data(0, -1), 0x0706050403020100L);
        Checks.due("data(0, -7)", x.data(0, -7), 0x0100000000000000L);
        Checks.due("data(0, -8)", x.data(0, -8), 0);
        Checks.due("data(0, most)", x.data(0, Integer.MAX_VALUE), 0);
        Checks.due("data(0, most - 3)", x.data(0, Integer.MAX_VALUE - 3), 0);
        Checks.due("data(0, least)", x.data(0, Integer.MIN_VALUE), 0);
        Checks.due("data(1, 0) of a frame", x.data(1, 0), 0);
    }

    private static void wrongArguments() {
        LabelScript x = Checks.reading("^L9,9^T^Xa^;^E");
        for (int k : new int[] {1, 120, -1, Integer.MIN_VALUE, Integer.MAX_VALUE}) {
            for (int i : new int[] {0, -1, 8, Integer.MIN_VALUE, Integer.MAX_VALUE}) {
                Checks.due("data(" + k + ", " + i + ")", Checks.thrownBy(() -> x.data(k, i)),
                    "IndexOutOfBoundsException");
            }
        }
        x.wipe();
        Checks.due("data stays after wipe()", Checks.dataOf(x, 0), "a");
        Checks.readAlone(x, "x");
        Checks.due("data after a fault", Checks.thrownBy(() -> x.data(0, 0)), "IndexOutOfBoundsException");
    }

    private static void dataOfOrders(String text, String... want) {
        LabelScript x = Checks.reading(text);
        Checks.due("orders of " + text, Checks.orderCount(x), want.length);
        for (int k = 0; k < want.length && k < Checks.orderCount(x); k++) {
            Checks.due("data of order " + k + " of " + text, Checks.dataOf(x, k), want[k]);
        }
    }

    private static void escapes() {
        dataOfOrders("^L9,9^T^X_5E_5f_00_fF_aB1^;^E", "^_\u0000\u00ff\u00ab1");
        dataOfOrders("^L9,9^T^X_5F41^;^E", "_41");
        dataOfOrders("^L9,9^T^X a,b\n;\u0001^;^E", " a,b\n;\u0001");
        dataOfOrders("^K1,_5Ex^L9,9^T^V1^;^E", "^x");
        dataOfOrders("^K1,,1^L9,9^T^V1^;^E", ",1");
        dataOfOrders("^S1^X_41^Z^L9,9^T^U1^;^E", "A");
    }

    private static void lines() {
        String front = "^L9,9^W5^X";
        dataOfOrders(front + "abcde^;^E", "abcde");
        dataOfOrders(front + "abcdef^;^E", "abcde", "f");
        dataOfOrders(front + "abcde fg^;^E", "abcde", "fg");
        dataOfOrders(front + "abcde ^;^E", "abcde", "");
        dataOfOrders(front + "ab cd ef^;^E", "ab cd", "ef");
        dataOfOrders(front + "ab cdefgh^;^E", "ab", "cdefg", "h");
        dataOfOrders(front + "a b cdefgh^;^E", "a b", "cdefg", "h");
        dataOfOrders(front + " abcdefg^;^E", "", "abcde", "fg");
        dataOfOrders(front + "      ^;^E", "     ", "");
        dataOfOrders(front + "       ^;^E", "     ", " ");
        dataOfOrders(front + "ab_0Acd^;^E", "ab", "cd");
        dataOfOrders(front + "ab\ncd^;^E", "ab", "cd");
        dataOfOrders(front + "_0A^;^E", "", "");
        dataOfOrders(front + "ab_0A_0Acd_0A^;^E", "ab", "", "cd", "");
        dataOfOrders(front + "abcdefg_0Ah i jklm^;^E", "abcde", "fg", "h i", "jklm");
        dataOfOrders(front + "abcde_0Af^;^E", "abcde", "f");
        dataOfOrders(front + "abcde _0Af^;^E", "abcde", "", "f");
        dataOfOrders(front + "a_09bcdefg^;^E", "a\tbcd", "efg");
    }

    private static void pictures() {
        dataOfOrders("^L9,9^P16^X00fFAb09^;^E", "\u0000\u00ff\u00ab\u0009");
        dataOfOrders("^L9,9^P^X_34_31^;^E", "A");
    }

    private static void countingOn() {
        dataOfOrders("^L9,9^C3^#1^T^Xa8^;^E", "a8", "a9", "a0");
        dataOfOrders("^L9,9^#1^T^Xa08^;^C3^E", "a08", "a09", "a10");
        dataOfOrders("^L9,9^C3^#^T^Xa8^;^E", "a8", "a8", "a8");
        dataOfOrders("^L9,9^C3^#5^#-1^T^Xa1^;^E", "a1", "a0", "a9");
        dataOfOrders("^L9,9^C3^#-99^T^X5^;^E", "5", "6", "7");
        dataOfOrders("^L9,9^C3^#99^T^X5^;^E", "5", "4", "3");
        dataOfOrders("^L9,9^C2^#1^T^X999^;^E", "999", "000");
        dataOfOrders("^L9,9^C2^#1^T^X7999999999^;^E", "7999999999", "7000000000");
        dataOfOrders("^L9,9^C2^#-1^T^X7000000000^;^E", "7000000000", "7999999999");
        dataOfOrders("^L9,9^C2^#1^T^X1 9^;^E", "1 9", "1 0");
        dataOfOrders("^K1,x19^L9,9^C2^#1^T^V1^;^T^V1^;^E", "x19", "x19", "x20", "x19");
        dataOfOrders("^L9,9^C2^#1^N^X000999999999^;^E", "000999999999", "000000000000");
        dataOfOrders("^L9,9^C2^#1^F^X1^;^E", "", "");
        dataOfOrders("^L9,9^C2^#1^T^X_31_39^;^E", "19", "20");
        LabelScript x = Checks.reading("^L9,9^C12^#99^T^X0000^;^E");
        Checks.due("the last copy", Checks.dataOf(x, 11), "1089");
    }

    private static void countingOnInParts() {
        dataOfOrders("^L9,9^C2^#1^B,,,1^Xa9^;^E", "a9", "a9", "a0", "a0");
        dataOfOrders("^L9,9^C2^#1^W2^Xa_0A1999^;^E", "a", "19", "99", "a", "20", "00");
        dataOfOrders("^L9,9^C2^#1^W3^X9 99^;^E", "9", "99", "9", "00");
        dataOfOrders("^L9,9^C2^#1^P^X4a49^;^E", "JI", "JP");
        dataOfOrders("^L9,9^C2^#1^P^X4039^;^E", "@9", "@@");
        dataOfOrders("^L9,9^C2^#1^P^Xa9^;^E", "\u00a9", "\u00a0");
        dataOfOrders("^L9,9^#1^T^X1^;^E^L9,9^C2^#1^T^X1^;^E", "1", "1", "2");
    }

    private static void manyOrders() {
        LabelScript x = new LabelScript();
        Checks.readAlone(x, "^S0" + "^V1^T^;".repeat(40) + "^Z^K1," + "abcdefgh".repeat(25));
        Checks.readAlone(x, "^L9,9^U0^U0^K1,z^U0^E");
        Checks.due("orders", Checks.orderCount(x), 120);
        for (int k = 0; k < 120; k++) {
            Checks.due("data of order " + k, Checks.dataOf(x, k), k < 80 ? "abcdefgh".repeat(25) : "z");
        }
    }
}
