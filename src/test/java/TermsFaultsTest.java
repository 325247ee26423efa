/** Terms, the paragraph FAULTS: each of them, at the edges of its rule. */
public final class TermsFaultsTest {
    private static final String LETTERS = "SKLEHCDUORXV#TWBNQFIGP;";

    public static void main(String[] args) {
        bytes();
        letters();
        commandsOutOfPlace();
        numbers();
        data();
        forms();
        fieldsWithoutData();
        figures();
        pictures();
        fieldsThatCountOn();
        blocks();
        places();
        placesOfSecondOrders();
        placesOfLines();
        uses();
        theTextEndsInALabel();
        Checks.end();
    }

    private static void sentence(int fault, String words) {
        Checks.sentence("Terms, FAULTS, " + fault, words);
    }

    private static void bytes() {
        sentence(1, "a byte that is no ^ where a command must begin");
        Checks.fault(" ", 0);
        Checks.fault("!", 1);
        Checks.fault("\u007f", 1);
        Checks.fault("\u0080", 1);
        Checks.fault("\u00ff", 1);
        Checks.fault("]", 1);
        Checks.fault("_", 1);
        Checks.inLabel("^O1-2", 1);
        Checks.inLabel("^R1", 1);
        Checks.fault("^L9,9^E,", 1);
        Checks.fault("^S1x^Z^L9,9^U1", 1);
    }

    private static void letters() {
        sentence(2, "the letter is none of these (small ones are none; Z here, or nothing behind the ^, too)");
        for (char c = 0; c < 256; c++) {
            boolean known = LETTERS.indexOf(c) >= 0;
            Checks.due("a letter with code " + (int) c, Checks.reading("^" + c).fault() == 2 ? 1 : 0, known ? 0 : 1);
            LabelScript x = Checks.reading("^L9,9^" + c);
            Checks.due("in a label, code " + (int) c, x.fault() == 2 ? 1 : 0, known ? 0 : 1);
        }
        Checks.fault("^", 2);
        Checks.fault("^^", 2);
        Checks.fault("^Z", 2);
        Checks.inLabel("^Z", 2);
        Checks.fault("^S1^Z^Z", 2);
        Checks.fault("^l9,9^E", 2);
        Checks.fault("^S1^^Z^L9,9^U1", 2);
    }

    private static void commandsOutOfPlace() {
        sentence(3, "it cannot stand there (a form is read in a label); or it is ; without a kind");
        for (char c : "EHCDUORXV#TWBNQFIGP;".toCharArray()) {
            Checks.fault("^" + c, 3);
        }
        for (String command : new String[] {"^L9,9", "^S1^Z", "^;"}) {
            Checks.inLabel(command, 3);
        }
        for (String command : new String[] {"^L9,9", "^S2", "^E", "^;"}) {
            Checks.fault("^S1" + command + "^Z^L9,9^U1^E", 3);
        }
        String[] good = {"^K1,a", "^H", "^C", "^D", "^O", "^R", "^X", "^V", "^#", "^T", "^W1", "^B", "^N", "^Q", "^F",
            "^I", "^G", "^P", "^F^;", "^U2"};
        for (String command : good) {
            Checks.fault("^S1" + command + "^Z^S2^R^Z^L9,9^U1^E", 0);
            Checks.fault("^S2^R^Z^L9,9" + command + "^E", 0);
        }
        Checks.inLabel("^Xa^O1^R^#1^;", 3);
        Checks.inLabel("^F^;^;", 3);
        Checks.fault("^S1^;^Z^L9,9^F^U1^E", 0);
    }

    private static void numbers() {
        sentence(4, "a comma behind as many as it has, a minus without a digit behind it, more than five digits; "
            + "K without its comma");
        Checks.inLabel("^O1,2", 0);
        Checks.inLabel("^O1,2,", 4);
        Checks.inLabel("^O,", 0);
        Checks.inLabel("^O,,", 4);
        Checks.inLabel("^O-1", 0);
        Checks.inLabel("^O-", 4);
        Checks.inLabel("^O00001", 0);
        Checks.inLabel("^O000001", 4);
        Checks.fault("^K1,", 0);
        Checks.fault("^K1", 4);
        Checks.inLabel("^K1", 4);
        Checks.fault("^S1^K1^Z^L9,9^U1", 4);
    }

    private static void data() {
        sentence(6, "data with _ not before two hexadecimal digits, or more than 200 bytes (one for _ and its digits)");
        for (String front : new String[] {"^L9,9^X", "^K1,", "^L9,9^K1,"}) {
            String behind = front.startsWith("^L") ? "^E" : "";
            Checks.fault(front + "a".repeat(200) + behind, 0);
            Checks.fault(front + "a".repeat(201) + behind, 6);
            Checks.fault(front + "_41".repeat(200) + behind, 0);
            Checks.fault(front + "_41".repeat(201) + behind, 6);
            Checks.fault(front + "_41".repeat(199) + "a" + behind, 0);
            Checks.fault(front + "_41".repeat(200) + "a" + behind, 6);
            Checks.fault(front + "a".repeat(200) + "_41" + behind, 6);
            Checks.fault(front + "a".repeat(199) + "_4" + behind, 6);
            Checks.fault(front + "a".repeat(600) + behind, 6);
            Checks.fault(front + "_" + behind, 6);
            Checks.fault(front + "_4" + behind, 6);
            Checks.fault(front + "_4g" + behind, 6);
            Checks.fault(front + "_g4" + behind, 6);
            Checks.fault(front + "__41" + behind, 6);
            Checks.fault(front + "_0f_F0_9A_aC" + behind, 0);
        }
        Checks.fault("^S1^X" + "a".repeat(200) + "^Z^L9,9^U1^E", 0);
        Checks.fault("^S1^X" + "a".repeat(201) + "^Z^L9,9^U1^E", 6);
    }

    private static void forms() {
        sentence(7, "there is no ^Z; or a form of more than 400 bytes");
        Checks.fault("^S1", 7);
        Checks.fault("^S1abc^", 7);
        Checks.fault("^S1abcZ", 7);
        Checks.fault("^S1abc^z", 7);
        Checks.fault("^S1abc^ Z", 7);
        Checks.fault("^S1^Z", 0);
        Checks.fault("^S1^^Z", 0);
        Checks.fault("^S1" + "a".repeat(400) + "^Z", 0);
        Checks.fault("^S1" + "a".repeat(401) + "^Z", 7);
        Checks.fault("^S1" + "a".repeat(400), 7);
        Checks.fault("^S1" + " ".repeat(400) + "^Z", 0);
        Checks.fault("^S1" + " ".repeat(401) + "^Z", 7);
    }

    private static void fieldsWithoutData() {
        sentence(8, "without a byte of data (kinds 0 to 3 and 7)");
        for (String kind : new String[] {"^T", "^W5", "^B", "^N", "^Q", "^P"}) {
            Checks.inLabel(kind + "^;", 8);
            Checks.inLabel(kind + "^X^;", 8);
            Checks.inLabel(kind + "^V1^;", 8);
            Checks.inLabel(kind + "^X123456789012^V1^;", 8);
            Checks.inLabel(kind + "^V1^X123456789012^;", 0);
        }
        for (String kind : new String[] {"^T", "^W5", "^B", "^Q"}) {
            Checks.inLabel(kind + "^Xa^;", 0);
            Checks.inLabel(kind + "^X_00^;", 0);
            Checks.inLabel(kind + "^X_0A^;", 0);
        }
        for (String kind : new String[] {"^F", "^I", "^G"}) {
            Checks.inLabel(kind + "^;", 0);
            Checks.inLabel(kind + "^X^;", 0);
            Checks.inLabel(kind + "^V1^;", 0);
        }
    }

    private static void figures() {
        sentence(8, "for N not twelve digits");
        Checks.inLabel("^N^X000000000000^;", 0);
        Checks.inLabel("^N^X999999999999^;", 0);
        Checks.inLabel("^N^X12345678901^;", 8);
        Checks.inLabel("^N^X1234567890123^;", 8);
        for (int i = 0; i < 12; i++) {
            for (String wrong : new String[] {"/", ":", "a", " ", "-", "_B1"}) {
                Checks.inLabel("^N^X" + "1".repeat(i) + wrong + "1".repeat(11 - i) + "^;", 8);
            }
        }
        Checks.inLabel("^N^Xa123456789012^;", 8);
        Checks.inLabel("^N^X123456789012 ^;", 8);
    }

    private static void pictures() {
        sentence(8, "for P not pairs of hexadecimal digits, or a last row that is not whole "
            + "(rows of as many bytes as w bits take)");
        Checks.inLabel("^P^X0^;", 8);
        Checks.inLabel("^P^X0a^;", 0);
        Checks.inLabel("^P^X0aF^;", 8);
        Checks.inLabel("^P^X09afAF^;", 0);
        for (String wrong : new String[] {"/", ":", "@", "G", "`", "g", " ", "_0A"}) {
            Checks.inLabel("^P^X0" + wrong + "^;", 8);
            Checks.inLabel("^P^X" + wrong + "0^;", 8);
            Checks.inLabel("^P^X0000" + wrong + "0^;", 8);
        }
        for (int bytes = 1; bytes <= 3; bytes++) {
            for (int w = 8 * bytes - 7; w <= 8 * bytes; w++) {
                Checks.inLabel("^P" + w + "^X" + "0f".repeat(bytes) + "^;", 0);
                Checks.inLabel("^P" + w + "^X" + "0f".repeat(2 * bytes) + "^;", 0);
                Checks.inLabel("^P" + w + "^X" + "0f".repeat(2 * bytes - 1) + "^;", bytes == 1 ? 0 : 8);
                Checks.inLabel("^P" + w + "^X" + "0f".repeat(2 * bytes + 1) + "^;", bytes == 1 ? 0 : 8);
            }
        }
        Checks.inLabel("^P800^X" + "a".repeat(200) + "^;", 0);
        Checks.inLabel("^P801^X" + "a".repeat(200) + "^;", 8);
        Checks.inLabel("^P400^X" + "a".repeat(200) + "^;", 0);
        Checks.inLabel("^P401^X" + "a".repeat(200) + "^;", 8);
        Checks.inLabel("^P1024^X" + "a".repeat(200) + "^;", 8);
    }

    private static void fieldsThatCountOn() {
        sentence(8, "it counts on, and its data, as told by X or V, does not end with a digit "
            + "(for kinds 4 to 6, too, which make no use of it)");
        for (String kind : new String[] {"^T", "^W5", "^B", "^Q", "^F", "^I", "^G"}) {
            Checks.inLabel(kind + "^#1^Xa1^;", 0);
            Checks.inLabel(kind + "^#1^X0^;", 0);
            Checks.inLabel(kind + "^#1^X9^;", 0);
            Checks.inLabel(kind + "^#1^X1a^;", 8);
            Checks.inLabel(kind + "^#1^X1/^;", 8);
            Checks.inLabel(kind + "^#1^X1:^;", 8);
            Checks.inLabel(kind + "^#1^X1_0A^;", 8);
            Checks.inLabel(kind + "^#1^X1_B1^;", 8);
            Checks.inLabel(kind + "^#0^Xa^;", 8);
            Checks.inLabel(kind + "^#^Xa^;", 8);
            Checks.inLabel(kind + "^#1^;", 8);
            Checks.inLabel(kind + "^#1^X1^V1^;", 8);
            Checks.inLabel("^K1,a" + kind + "^#1^V1^;", 8);
            Checks.inLabel("^K1,1" + kind + "^#1^V1^;", 0);
            Checks.inLabel(kind + "^Xa^;", 0);
        }
        Checks.inLabel("^P^#1^Xa0^;", 0);
        Checks.inLabel("^P^#1^X0a^;", 8);
        Checks.inLabel("^N^#1^X123456789012^;", 0);
    }

    private static void blocks() {
        sentence(8, "a block of more than 20 lines");
        Checks.inLabel("^W1^X" + "a".repeat(20) + "^;", 0);
        Checks.inLabel("^W1^X" + "a".repeat(21) + "^;", 8);
        Checks.inLabel("^W9^X" + "_0A".repeat(19) + "^;", 0);
        Checks.inLabel("^W9^X" + "_0A".repeat(20) + "^;", 8);
        Checks.inLabel("^W10^X" + "a".repeat(200) + "^;", 0);
        Checks.inLabel("^W9^X" + "a".repeat(180) + "^;", 0);
        Checks.inLabel("^W9^X" + "a".repeat(181) + "^;", 8);
        Checks.inLabel("^W1^X" + "a ".repeat(19) + "^;", 0);
        Checks.inLabel("^W1^X" + "a ".repeat(20) + "^;", 8);
        Checks.inLabel("^W1^X" + "a ".repeat(19) + "a^;", 0);
    }

    private static void places() {
        sentence(8, "the place of an order, or for a line the place and x, y together, not -4096 .. 4096");
        String[] kinds = {"^T^Xa", "^W5^Xa", "^B^Xa", "^N^X123456789012", "^Q^Xa", "^F", "^I", "^G", "^P^X41"};
        for (String kind : kinds) {
            Checks.inLabel("^H4000,-4000^O96,-96" + kind + "^;", 0);
            Checks.inLabel("^H-4000,4000^O-96,96" + kind + "^;", 0);
            Checks.inLabel("^H4000^O97" + kind + "^;", 8);
            Checks.inLabel("^H-4000^O-97" + kind + "^;", 8);
            Checks.inLabel("^H,4000^O,97" + kind + "^;", 8);
            Checks.inLabel("^H,-4000^O,-97" + kind + "^;", 8);
            Checks.inLabel("^H4096,4096^O4096,4096" + kind + "^;", 8);
        }
    }

    private static void placesOfSecondOrders() {
        sentence(8, "the place of an order");
        Checks.inLabel("^O0,4043^B,50,0,1^Xa^;", 0);
        Checks.inLabel("^O0,4044^B,50,0,1^Xa^;", 8);
        Checks.inLabel("^O0,4044^B,50,0^Xa^;", 0);
        Checks.inLabel("^O-4043^B,50,1,1^Xa^;", 0);
        Checks.inLabel("^O-4044^B,50,1,1^Xa^;", 8);
        Checks.inLabel("^O0,-4043^B,50,2,1^Xa^;", 0);
        Checks.inLabel("^O0,-4044^B,50,2,1^Xa^;", 8);
        Checks.inLabel("^O4043^B,50,3,1^Xa^;", 0);
        Checks.inLabel("^O4044^B,50,3,1^Xa^;", 8);
        Checks.inLabel("^O0,4095^W1,1^Xab^;", 0);
        Checks.inLabel("^O0,4096^W1,1^Xab^;", 8);
        Checks.inLabel("^O0,4096^W1,0^Xab^;", 0);
        Checks.inLabel("^O4000^W97,0,1,1^Xa^;", 0);
        Checks.inLabel("^O4001^W97,0,1,1^Xa^;", 8);
        Checks.inLabel("^O4001^W97,0,0,1^Xa^;", 0);
        Checks.inLabel("^D,,,2^O-4000^W97,0,1,1^Xa^;", 0);
        Checks.inLabel("^D,,,2^O-4001^W97,0,1,1^Xa^;", 8);
        Checks.inLabel("^W99,0,1,999^Xa^;", 8);
        Checks.inLabel("^W9,999^X_0A_0A_0A_0A^;", 0);
        Checks.inLabel("^W9,999^X_0A_0A_0A_0A_0A^;", 8);
    }

    private static void placesOfLines() {
        sentence(8, "for a line the place and x, y together, not -4096 .. 4096");
        Checks.inLabel("^O4090,1^G6,4095^;", 0);
        Checks.inLabel("^O4090^G7^;", 8);
        Checks.inLabel("^O-4090^G-6^;", 0);
        Checks.inLabel("^O-4090^G-7^;", 8);
        Checks.inLabel("^O0,4090^G0,6^;", 0);
        Checks.inLabel("^O0,4090^G0,7^;", 8);
        Checks.inLabel("^O0,-4090^G0,-6^;", 0);
        Checks.inLabel("^O0,-4090^G0,-7^;", 8);
        Checks.inLabel("^H90^O4000^G6^;", 0);
        Checks.inLabel("^H90^O4000^G7^;", 8);
        Checks.inLabel("^O4096,4096^G-4096,-4096^;", 0);
        Checks.inLabel("^H4096^O1^G-1^;", 8);
        Checks.inLabel("^O4090^F7^;", 0);
        Checks.inLabel("^O4090^I7^;", 0);
    }

    private static void uses() {
        sentence(9, "U of an empty form, or within four others already");
        Checks.inLabel("^U3", 9);
        Checks.fault("^S3^Z^L9,9^U3^E", 9);
        Checks.fault("^S3^R^Z^S3^Z^L9,9^U3^E", 9);
        Checks.fault("^S3 ^Z^L9,9^U3^E", 0);
        Checks.fault("^S3^U3^Z^L9,9^U3^E", 9);
        Checks.fault("^S3^U4^Z^L9,9^U3^E", 9);
        String chain = "^S0^U1^Z^S1^U2^Z^S2^U3^Z";
        Checks.fault(chain + "^S3^R^Z^L9,9^U0^E", 0);
        Checks.fault(chain + "^S3^U4^Z^S4^R^Z^L9,9^U0^E", 9);
        Checks.fault(chain + "^S3^U4^Z^S4^R^Z^L9,9^U1^E", 0);
        Checks.fault(chain + "^S3^R^Z^L9,9^U0^U0^U0^U0^U0^U0^E", 0);
        Checks.fault("^S0^U1^U1^U1^U1^U1^Z^S1^R^Z^L9,9^U0^E", 0);
    }

    private static void theTextEndsInALabel() {
        sentence(11, "the text ends in a label");
        Checks.fault("^L9,9", 11);
        Checks.fault("^L9,9 ", 11);
        Checks.fault("^L9,9^T^Xa", 11);
        Checks.fault("^L9,9^E^L9,9^F^;", 11);
        Checks.fault("^S1^R^Z^L9,9^U1", 11);
        Checks.fault("^L9,9^E", 0);
        Checks.fault("^L9,9^E^K1,a", 0);
    }
}
