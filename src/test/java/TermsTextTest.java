/** Terms, the paragraph THE TEXT: its bytes, commands, numbers and data. */
public final class TermsTextTest {
    private static final String TERMS = "Terms, THE TEXT";

    public static void main(String[] args) {
        upTo4096Bytes();
        bytesAre0To255();
        blanksWhereACommandMayBegin();
        blanksBehindNumbers();
        blanksInForms();
        blanksThatAreNotLeftOut();
        aCommandIsItsLetterAndWhatBelongsToIt();
        asManyNumbersAsItHas();
        oneToFiveDigits();
        perhapsAMinus();
        leftOut();
        leftOutWithNumbersOfItsOwn();
        dataUpToTheNextCommandOrTheEnd();
        escapes();
        Checks.end();
    }

    // Texts of over 4088 bytes take more than the 512 calls that are promised; they are read all the same.
    private static void upTo4096Bytes() {
        Checks.sentence(TERMS, "THE TEXT is a row of up to 4096 bytes.");
        Checks.dueLabels(" ".repeat(4081) + "^L9,9^E", 1);
        Checks.dueLabels(" ".repeat(4089) + "^L9,9^E", 1);
        Checks.dueFault(" ".repeat(4090) + "^L9,9^E", 2, 4095);
        Checks.dueFault("^L9,9" + " ".repeat(4091), 11, 4096);
        Checks.dueFault("^L9,9" + " ".repeat(4091) + "^E", 11, 4096);
        Checks.dueFault(" ".repeat(4095) + "x", 1, 4095);
    }

    private static void bytesAre0To255() {
        Checks.sentence(TERMS, "(bytes are 0 .. 255)");
        StringBuilder low = new StringBuilder();
        StringBuilder high = new StringBuilder();
        for (char c = 0; c < 128; c++) {
            low.append(c == '^' || c == '_' ? "" : c);
            high.append((char) (c + 128));
        }
        Checks.dueData("^K3," + high + "^L9,9^T^X" + low + "^;^T^V3^;^E", low.toString(), high.toString());
    }

    /** Where one more byte stands there: those not above 32 are left out, others are faults, but for these. */
    private static void everyByteAt(String front, String behind, String butFor, int place) {
        for (char c = 0; c < 256; c++) {
            String text = front + c + behind;
            if (c <= 32) {
                Checks.dueLabels(text, 1);
            } else if (butFor.indexOf(c) < 0) {
                Checks.dueFault(text, c == '^' ? 2 : 1, place);
            }
        }
    }

    private static void everyByteBetween(String front, String behind, String butFor) {
        everyByteAt(front, behind, butFor, front.length());
    }

    private static void blanksWhereACommandMayBegin() {
        Checks.sentence(TERMS, "bytes not above 32 are left out where a command may begin");
        everyByteBetween("", "^L9,9^E", "");
        everyByteBetween("^L9,9^R", "^E", "");
        everyByteBetween("^L9,9^F^;", "^E", "");
        everyByteBetween("^L9,9^E", "", "");
        everyByteBetween("^S1^R^Z", "^L9,9^U1^E", "");
        everyByteBetween("^L9,9^E \n", " ", "");
        Checks.dueLabels(" \0\n\t\r\u001f ^L9,9 \0\n\t\r\u001f ^E \0\n\t\r\u001f ", 1);
    }

    private static void blanksBehindNumbers() {
        Checks.sentence(TERMS, "(behind the numbers of one, too)");
        String numbers = "0123456789,";
        everyByteBetween("^L9,9", "^E", numbers);
        everyByteBetween("^L9,9^H1", "^E", numbers);
        everyByteBetween("^L9,9^H1,", "^E", numbers + "-");
        everyByteBetween("^L9,9^H", "^E", numbers + "-");
        everyByteBetween("^L9,9^T0,1,1,0", "^E", numbers);
        everyByteBetween("^S1^R^Z^L9,9^U1", "^E", numbers);
        everyByteBetween("^L9,9^V", "^E", numbers + "-");
    }

    private static void blanksInForms() {
        Checks.sentence(TERMS, "bytes not above 32 are left out where a command may begin");
        everyByteAt("^S1^R", "^R^Z^L9,9^U1^E", "", 15);
        everyByteAt("^S1^R", "^Z^L9,9^U1^E", "^", 13);
        everyByteAt("^S1", "^R^Z^L9,9^U1^E", "0123456789,", 13);
        everyByteAt("^S1^H1", "^Z^L9,9^U1^E", "0123456789,^", 14);
    }

    private static void blanksThatAreNotLeftOut() {
        Checks.sentence(TERMS, "where a command may begin");
        Checks.dueFault("^ L9,9^E", 2, 0);
        Checks.dueFault("^L 9,9^E", 5, 0);
        Checks.dueFault("^L9,9^O 1^E", 1, 8);
        Checks.dueFault("^L9,9^O1 ,2^E", 1, 9);
        Checks.dueFault("^L9,9^O1, 2^E", 1, 10);
        Checks.dueFault("^L9,9^O1 2^E", 1, 9);
        Checks.dueFault("^L9,9^O- 1^E", 4, 5);
        Checks.dueFault("^K1 ,a", 4, 0);
        Checks.dueFault("^K ,a", 4, 0);
        Checks.dueFault("^S 1^Z^L9,9^U0^E", 1, 11);
        Checks.dueData("^K1, a\n^L9,9^T^V1^;^T^X b\0^;^E", " a\n", " b\0");
    }

    private static void aCommandIsItsLetterAndWhatBelongsToIt() {
        Checks.sentence(TERMS, "a COMMAND is ^, its LETTER, and what belongs to that");
        Checks.dueFault("L9,9^E", 1, 0);
        Checks.dueFault("^L9,9E", 1, 5);
        Checks.dueFault("^L9,9^R1^E", 1, 7);
        Checks.dueFault("^L9,9^R,^E", 1, 7);
        Checks.dueFault("^L9,9^F^;1^E", 1, 9);
        Checks.dueFault("^L9,9^E,", 1, 7);
        Checks.dueFault("^L9,9^E-1", 1, 7);
        Checks.dueData("^L9,9^T^X1,2^;^E", "1,2");
    }

    /** All numbers that it has, one that is missing, and one comma too much; each in a label. */
    private static void numbersOf(String front, String command, String... numbers) {
        StringBuilder text = new StringBuilder(front).append("^L9,9").append(command);
        for (int i = 0; i < numbers.length; i++) {
            text.append(i > 0 ? "," : "").append(numbers[i]);
            Checks.fault(text + "^E", 0);
        }
        Checks.dueFault(text + ",^E", 4, front.length() + 5);
        Checks.dueFault(text + ",1^E", 4, front.length() + 5);
        Checks.dueFault(front + "^L9,9" + command + "1" + ",".repeat(numbers.length) + "^E", 4, front.length() + 5);
    }

    private static void asManyNumbersAsItHas() {
        Checks.sentence(TERMS, "up to as many as it has, with a comma between one and the next");
        numbersOf("", "^H", "1", "2");
        numbersOf("", "^C", "1");
        numbersOf("", "^D", "1", "2", "3", "1");
        numbersOf("^S1^R^Z", "^U", "1");
        numbersOf("", "^O", "1", "2");
        numbersOf("", "^V", "1");
        numbersOf("", "^#", "1");
        numbersOf("", "^T", "1", "2", "3", "1");
        numbersOf("", "^W", "1", "2", "1", "4");
        numbersOf("", "^B", "1", "2", "3", "1");
        numbersOf("", "^N", "1", "2", "3");
        numbersOf("", "^Q", "1", "2", "3", "1");
        numbersOf("", "^F", "1", "2", "3");
        numbersOf("", "^I", "1", "2", "3");
        numbersOf("", "^G", "1", "2", "3");
        numbersOf("", "^P", "1");
        Checks.dueLabels("^L1,2^E", 1);
        Checks.dueFault("^L1,2,^E", 4, 0);
        Checks.dueFault("^L1,2,3^E", 4, 0);
        Checks.dueLabels("^S1^Z", 0);
        Checks.dueFault("^S1,^Z", 4, 0);
        Checks.dueFault("^S,^Z", 4, 0);
        Checks.dueData("^K1,,2^L9,9^T^V1^;^E", ",2");
    }

    private static void oneToFiveDigits() {
        Checks.sentence(TERMS, "one to five digits");
        Checks.dueOrders("^O7,00007^F^;", "4 7 7 0 0 1 1 1 []");
        Checks.dueOrders("^O-00007,04096^F00002,02,002^;", "4 -7 4096 0 0 2 2 2 []");
        Checks.inLabel("^O99999", 5);
        Checks.inLabel("^O-99999", 5);
        Checks.inLabel("^O000007", 4);
        Checks.inLabel("^O-000007", 4);
        Checks.inLabel("^O1,000007", 4);
        Checks.inLabel("^O0000000000000000000000000000007", 4);
        Checks.fault("^L00009,00009^E", 0);
        Checks.fault("^L000009,9^E", 4);
        Checks.fault("^S00001^Z", 0);
        Checks.fault("^S000001^Z", 4);
        Checks.fault("^K00001,a", 0);
        Checks.fault("^K000001,a", 4);
        Checks.inLabel("^O7/", 1);
        Checks.inLabel("^O7:", 1);
    }

    private static void perhapsAMinus() {
        Checks.sentence(TERMS, "each perhaps a minus");
        Checks.dueOrders("^O-7,-8^F^;", "4 -7 -8 0 0 1 1 1 []");
        Checks.dueOrders("^O-0,-00000^F^;", "4 0 0 0 0 1 1 1 []");
        Checks.inLabel("^O-", 4);
        Checks.inLabel("^O-,1", 4);
        Checks.inLabel("^O1,-", 4);
        Checks.inLabel("^O--1", 4);
        Checks.inLabel("^O-x", 4);
        Checks.inLabel("^O1-", 1);
        Checks.inLabel("^O+1", 1);
        Checks.fault("^S-^Z", 4);
        Checks.fault("^K-,a", 4);
        Checks.fault("^K-0,a", 0);
        Checks.fault("^S-0^Z", 0);
    }

    private static void leftOut() {
        Checks.sentence(TERMS, "or left out (nothing stands there, also behind the last comma or without one): "
            + "it is 0 then");
        for (String numbers : new String[] {"7", "7,", "7,0"}) {
            Checks.dueOrders("^O" + numbers + "^F^;", "4 7 0 0 0 1 1 1 []");
            Checks.dueOrders("^H" + numbers + "^F^;", "4 7 0 0 0 1 1 1 []");
            Checks.dueOrders("^G" + numbers + "^;", "6 0 0 0 0 7 0 1 []");
        }
        for (String numbers : new String[] {"", ",", "0", ",0", "0,"}) {
            Checks.dueOrders("^H3,4^O5,6^H" + numbers + "^O" + numbers + "^F^;", "4 0 0 0 0 1 1 1 []");
        }
        Checks.dueOrders("^O,7^F^;", "4 0 7 0 0 1 1 1 []");
        Checks.dueOrders("^H,7^F^;", "4 0 7 0 0 1 1 1 []");
        Checks.dueOrders("^W6^Xabc_0Ad^;", "0 0 0 0 0 0 1 1 [abc]", "0 0 0 0 0 0 1 1 [d]");
        Checks.dueOrders("^W6,,1,7^Xabc_0Ad^;", "0 21 0 0 0 0 1 1 [abc]", "0 35 0 0 0 0 1 1 [d]");
        Checks.dueOrders("^W6,10,,7^Xabc_0Ad^;", "0 0 0 0 0 0 1 1 [abc]", "0 0 10 0 0 0 1 1 [d]");
        Checks.dueOrders("^W6,10,1,^Xabc_0Ad^;", "0 0 0 0 0 0 1 1 [abc]", "0 0 10 0 0 0 1 1 [d]");
        Checks.dueOrders("^W6,10,1^Xabc_0Ad^;", "0 0 0 0 0 0 1 1 [abc]", "0 0 10 0 0 0 1 1 [d]");
        Checks.inLabel("^W", 5);
        Checks.inLabel("^W,1,1,1", 5);
        for (String numbers : new String[] {"", ",", "5", "5,", ",5"}) {
            Checks.dueFault("^L" + numbers + "^E", 5, 0);
        }
        Checks.dueData("^L9,9^C2^#5^#^T^X7^;^E", "7", "7");
        Checks.dueData("^K,abc^L9,9^T^V0^;^E", "abc");
        Checks.dueData("^K0,abc^L9,9^T^V^;^E", "abc");
        Checks.dueLabels("^S^R^Z^L9,9^U0^E", 1);
        Checks.dueLabels("^S0^R^Z^L9,9^U^E", 1);
    }

    private static void leftOutWithNumbersOfItsOwn() {
        Checks.sentence(TERMS, "unless it says otherwise in [ ]");
        for (String numbers : new String[] {"", ",", ",,"}) {
            Checks.dueOrders("^F" + numbers + "^;", "4 0 0 0 0 1 1 1 []");
            Checks.dueOrders("^I" + numbers + "^;", "5 0 0 0 0 1 1 1 []");
            Checks.dueOrders("^G" + numbers + "^;", "6 0 0 0 0 0 0 1 []");
            Checks.dueOrders("^N" + numbers + "^X123456789012^;", "2 0 0 0 0 2 50 0 [123456789012]");
            Checks.dueOrders("^B" + numbers + "^Xa^;", "1 0 0 0 0 2 50 0 [a]");
            Checks.dueOrders("^B" + numbers + "^Xa^;", "1 0 0 0 0 2 50 0 [a]");
            Checks.dueOrders("^Q" + numbers + "^Xa^;", "3 0 0 0 0 2 1 -1 [a]");
            Checks.dueOrders("^D1,2,3,1^T" + numbers + "^Xa^;", "0 0 0 1 0 1 2 3 [a]");
            Checks.dueOrders("^D1,2,3,1^D" + numbers + "^T^Xa^;", "0 0 0 0 0 0 1 1 [a]");
        }
        Checks.dueOrders("^F7^;^F,7^;^F,,7^;", "4 0 0 0 0 7 1 1 []", "4 0 0 0 0 1 7 1 []", "4 0 0 0 0 1 1 7 []");
        Checks.dueOrders("^I7^;^I,7^;^I,,7^;", "5 0 0 0 0 7 1 1 []", "5 0 0 0 0 1 7 1 []", "5 0 0 0 0 1 1 7 []");
        Checks.dueOrders("^G7^;^G,7^;^G,,7^;", "6 0 0 0 0 7 0 1 []", "6 0 0 0 0 0 7 1 []", "6 0 0 0 0 0 0 7 []");
        Checks.dueOrders("^B7^Xa^;^B,7^Xa^;^B,,3^Xa^;^B,,,1^Xa^;", "1 0 0 0 0 7 50 0 [a]", "1 0 0 0 0 2 7 0 [a]",
            "1 0 0 3 0 2 50 0 [a]", "1 0 0 0 0 2 50 0 [a]", "0 0 53 0 0 0 1 1 [a]");
        Checks.dueOrders("^Q7^Xa^;^Q,3^Xa^;^Q,,3^Xa^;^Q,,,3^Xa^;", "3 0 0 0 0 7 1 -1 [a]", "3 0 0 0 0 2 3 -1 [a]",
            "3 0 0 0 0 2 1 3 [a]", "3 0 0 3 0 2 1 -1 [a]");
        Checks.dueOrders("^D1,2,3,1^T2^Xa^;^T,5^Xa^;^T,,5^Xa^;^T,,,2^Xa^;", "0 0 0 1 0 2 2 3 [a]",
            "0 0 0 1 0 1 5 3 [a]", "0 0 0 1 0 1 2 5 [a]", "0 0 0 2 0 1 2 3 [a]");
        Checks.dueOrders("^D1,2,3,1^D,5^T^Xa^;^D,,5^T^Xa^;", "0 0 0 0 0 0 5 1 [a]", "0 0 0 0 0 0 1 5 [a]");
        Checks.dueOrders("^P^X41^;", "7 0 0 0 0 8 0 0 [A]");
        Checks.dueLabels("^L9,9^C3^C^E", 1);
    }

    private static void dataUpToTheNextCommandOrTheEnd() {
        Checks.sentence(TERMS, "DATA of a command: all bytes up to the next ^ or the end");
        Checks.dueData("^L9,9^T^Xa_5Eb^;^E", "a^b");
        Checks.dueData("^L9,9^X a,b\n;\u0001^T^;^E", " a,b\n;\u0001");
        Checks.dueFault("^L9,9^T^Xabc", 11, 12);
        Checks.dueData("^S1^Xab^Z^L9,9^T^U1^;^E", "ab");
        LabelScript x = Checks.reading("^K1,abc");
        Checks.due("data that the end of the text ends", Checks.outcome(x, "^L9,9^T^V1^;^E"), "labels 1");
        Checks.due("the variable", Checks.dataOf(x, 0), "abc");
        Checks.readAlone(x, "^K1,");
        Checks.due("none at all", Checks.outcome(x, "^L9,9^T^V1^;^E"), "fault 8 at 10");
        Checks.dueFault("^L9,9^X^T^;^E", 8, 9);
    }

    private static void escapes() {
        Checks.sentence(TERMS, "_ and two hexadecimal digits (0 .. 9 A .. F a .. f) stand for the byte with this code");
        String digits = "0123456789ABCDEFabcdef";
        for (char c = 0; c < 256; c++) {
            if (digits.indexOf(c) >= 0) {
                int value = Character.digit(c, 16);
                Checks.dueData("^L9,9^T^X_" + c + "0_0" + c + "^;^E", (char) (16 * value) + "" + (char) value);
            } else {
                Checks.dueFault("^L9,9^T^X_" + c + "0^;^E", 6, 7);
                Checks.dueFault("^L9,9^T^X_0" + c + "^;^E", 6, 7);
                Checks.dueFault("^K1,_0" + c, 6, 0);
            }
        }
        Checks.dueData("^L9,9^T^X_00_ff_FF_5F41_5e5f^;^E", "\u0000\u00ff\u00ff_41^5f");
        Checks.dueData("^K1,_41_5E^L9,9^T^V1^;^E", "A^");
        Checks.dueData("^K1,_5F41^L9,9^T^V1^;^E", "_41");
        Checks.dueData("^S1^X_41^Z^L9,9^T^U1^;^E", "A");
        Checks.dueFault("^S1^X_4^Z^L9,9^T^U1^;^E", 6, 16);
        Checks.dueFault("^L9,9^T^Xa_", 6, 7);
        Checks.dueFault("^L9,9^T^Xa_4", 6, 7);
    }
}
