/** Promise 5: the fault that the last reading met, of each kind, at the edges of its rule. */
public final class Promise5FaultTest {
    public static void main(String[] args) {
        whatTheLastReadingMet();
        bytesAndLetters();
        commandsOutOfPlace();
        numbers();
        ranges();
        data();
        forms();
        fields();
        places();
        uses();
        tooMuch();
        twoThousandCommands();
        theFirstOfSeveral();
        Checks.end();
    }

    private static void fault(String text, int fault) {
        LabelScript x = Checks.reading(text);
        Checks.due("fault() of " + text, x.fault(), fault);
    }

    private static void inLabel(String commands, int fault) {
        fault("^L9,9" + commands + "^E", fault);
    }

    private static String times(int n, String part) {
        return part.repeat(n);
    }

    private static void whatTheLastReadingMet() {
        LabelScript x = Checks.reading("x");
        Checks.due("fault()", x.fault(), 1);
        x.wipe();
        Checks.due("fault() after wipe()", x.fault(), 1);
        Checks.due("write(0, 0)", Checks.thrownBy(() -> x.write(0, 0)), "IllegalArgumentException");
        Checks.due("fault() after a throw", x.fault(), 1);
        x.read();
        Checks.due("fault() after a good reading", x.fault(), 0);
    }

    private static void bytesAndLetters() {
        fault("x", 1);
        fault("!", 1);
        fault("\u0080", 1);
        fault("\u00ff", 1);
        fault("^L9,9^E,", 1);
        fault("^L9,9^R1", 1);
        fault("^L9,9^O1-2", 1);
        fault("^", 2);
        fault("^^", 2);
        fault("^Z", 2);
        fault("^l9,9^E", 2);
        for (char c = 0; c < 256; c++) {
            boolean known = "SKLEHCDUORXV#TWBNQFIGP;".indexOf(c) >= 0;
            LabelScript x = Checks.reading("^" + c);
            Checks.due("a letter with code " + (int) c, x.fault() == 2 ? 1 : 0, known ? 0 : 1);
        }
    }

    private static void commandsOutOfPlace() {
        for (char c : "EHCDUORXV#TWBNQFIGP;".toCharArray()) {
            fault("^" + c, 3);
        }
        inLabel("^L9,9", 3);
        inLabel("^S1^Z", 3);
        inLabel("^K1,a", 0);
        inLabel("^;", 3);
        inLabel("^Xa^O1^;", 3);
        fault("^L9,9^E^E", 3);
        fault("^S1^E^Z^L9,9^U1", 3);
        fault("^S1^L9,9^Z^L9,9^U1", 3);
        fault("^S1^S2^Z^L9,9^U1", 3);
        fault("^S1^;^Z^L9,9^U1", 3);
    }

    private static void numbers() {
        inLabel("^O1,2,", 4);
        inLabel("^O,,", 4);
        inLabel("^C1,", 4);
        inLabel("^T,,,,", 4);
        inLabel("^T,,,", 0);
        inLabel("^O-", 4);
        inLabel("^O1,-", 4);
        inLabel("^O--1", 4);
        inLabel("^O000001", 4);
        inLabel("^O-000001", 4);
        inLabel("^O00001,-00001", 0);
        fault("^K", 4);
        fault("^K1", 4);
        fault("^Ka,b", 4);
        fault("^K-,b", 4);
        fault("^K,", 0);
        fault("^K1,,b", 0);
        fault("^S1,a^Z", 4);
        fault("^S,a^Z", 4);
        fault("^S000001^Z", 4);
        fault("^S-^Z", 4);
        fault("^S1-^Z", 0);
    }

    /** In front and behind stands what makes of a number a command that is good when the number is. */
    private static void range(String front, int least, int most, String behind) {
        fault(front + least + behind, 0);
        fault(front + most + behind, 0);
        fault(front + (least - 1) + behind, 5);
        fault(front + (most + 1) + behind, 5);
    }

    private static void ranges() {
        range("^S", 0, 7, "^Z");
        range("^K", 0, 9, ",a");
        range("^L", 1, 1024, ",1^E");
        range("^L1,", 1, 1024, "^E");
        fault("^L", 5);
        fault("^L5", 5);
        fault("^L5,", 5);
        fault("^L,5", 5);
        for (int k = 0; k < 8; k++) {
            fault("^S" + k + "^R^Z^L9,9^U" + k + "^E", 0);
        }
        inLabel("^U8", 5);
        inLabel("^U-1", 5);
        for (String point : new String[] {"^H", "^H1,", "^O", "^O1,", "^G", "^G1,"}) {
            range("^L9,9" + point, -4096, 4096, "^E");
        }
        range("^L9,9^C", 1, 12, "^E");
        range("^L9,9^V", 0, 9, "^E");
        range("^L9,9^#", -99, 99, "^E");
        for (String text : new String[] {"^D", "^T"}) {
            range("^L9,9" + text, 0, 3, "^E");
            range("^L9,9" + text + ",", 1, 10, "^E");
            range("^L9,9" + text + ",,", 1, 10, "^E");
            range("^L9,9" + text + ",,,", 0, 3, "^E");
        }
        range("^L9,9^W", 1, 99, "^E");
        range("^L9,9^W1,", 0, 999, "^E");
        range("^L9,9^W1,,", 0, 2, "^E");
        range("^L9,9^W1,,,", 0, 999, "^E");
        inLabel("^W", 5);
        for (String bars : new String[] {"^B", "^N"}) {
            range("^L9,9" + bars, 1, 50, "^E");
            range("^L9,9" + bars + ",", 1, 2048, "^E");
            range("^L9,9" + bars + ",,", 0, 3, "^E");
        }
        range("^L9,9^B,,,", 0, 1, "^E");
        inLabel("^N,,,1", 4);
        range("^L9,9^Q", 1, 50, "^E");
        range("^L9,9^Q,", 0, 3, "^E");
        range("^L9,9^Q,,", -1, 7, "^E");
        range("^L9,9^Q,,,", 0, 3, "^E");
        for (String frame : new String[] {"^F", "^I"}) {
            range("^L9,9" + frame, 1, 2048, "^E");
            range("^L9,9" + frame + ",", 1, 2048, "^E");
            range("^L9,9" + frame + ",,", 1, 200, "^E");
        }
        range("^L9,9^G,,", 1, 200, "^E");
        range("^L9,9^P", 1, 1024, "^E");
    }

    private static void data() {
        inLabel("^X_", 6);
        inLabel("^X_4", 6);
        inLabel("^X_4g", 6);
        inLabel("^X_g4", 6);
        inLabel("^X__41", 6);
        inLabel("^X_4^", 6);
        inLabel("^X_-1", 6);
        inLabel("^X_0f_F0_9A_aC", 0);
        inLabel("^X" + times(200, "a"), 0);
        inLabel("^X" + times(201, "a"), 6);
        inLabel("^X" + times(200, "_41"), 0);
        inLabel("^X" + times(200, "_41") + "a", 6);
        fault("^K1,_4", 6);
        fault("^K1," + times(200, "a"), 0);
        fault("^K1," + times(201, "a"), 6);
        fault("^K1," + times(200, "a") + "_", 6);
    }

    private static void forms() {
        fault("^S1", 7);
        fault("^S1abc^", 7);
        fault("^S1abcZ", 7);
        fault("^S1^^Z", 0);
        fault("^S1" + times(400, "a") + "^Z", 0);
        fault("^S1" + times(401, "a") + "^Z", 7);
        fault("^S1^Z^Z", 2);
    }

    private static void fields() {
        for (String kind : new String[] {"^T", "^W5", "^B", "^N", "^Q", "^P"}) {
            inLabel(kind + "^;", 8);
            inLabel(kind + "^X^;", 8);
            inLabel(kind + "^X123456789012^V1^;", 8);
            inLabel(kind + "^V1^X123456789012^;", 0);
        }
        for (String kind : new String[] {"^F", "^I", "^G"}) {
            inLabel(kind + "^;", 0);
            inLabel(kind + "^#^;", 8);
            inLabel(kind + "^#1^Xa^;", 8);
            inLabel(kind + "^#1^Xa1^;", 0);
        }
        inLabel("^T^#^Xa^;", 8);
        inLabel("^T^#0^X1a^;", 8);
        inLabel("^T^#1^X1_0A^;", 8);
        inLabel("^P^#1^X0a^;", 8);
        inLabel("^P^#1^Xa0^;", 0);
        inLabel("^N^X12345678901^;", 8);
        inLabel("^N^X1234567890123^;", 8);
        inLabel("^N^X12345678901a^;", 8);
        inLabel("^N^Xa23456789012^;", 8);
        inLabel("^N^X 23456789012^;", 8);
        inLabel("^P^X0^;", 8);
        inLabel("^P^X0g^;", 8);
        inLabel("^P^Xg0^;", 8);
        inLabel("^P^X0 ^;", 8);
        inLabel("^P^X0aF^;", 8);
        inLabel("^P16^X0a^;", 8);
        inLabel("^P16^X0a0b0c^;", 8);
        inLabel("^P9^X0a0b0c0d^;", 0);
        inLabel("^P8^X0a0b0c^;", 0);
        inLabel("^P1^X0a0b0c^;", 0);
        inLabel("^P17^X0a0b0c^;", 0);
        inLabel("^P800^X" + times(200, "a") + "^;", 0);
        inLabel("^P801^X" + times(200, "a") + "^;", 8);
        inLabel("^W1^X" + times(20, "a") + "^;", 0);
        inLabel("^W1^X" + times(21, "a") + "^;", 8);
        inLabel("^W9^X" + times(19, "_0A") + "^;", 0);
        inLabel("^W9^X" + times(20, "_0A") + "^;", 8);
    }

    private static void places() {
        inLabel("^H4096,-4096^F^;", 0);
        inLabel("^H4096,0^O1^F^;", 8);
        inLabel("^H0,-4096^O0,-1^F^;", 8);
        inLabel("^H4096^O-4096^F^;", 0);
        inLabel("^O4096^H1^Q^Xa^;", 8);
        inLabel("^O4090,1^G6,4095^;", 0);
        inLabel("^O4090^G7^;", 8);
        inLabel("^O-4090^G-7^;", 8);
        inLabel("^O0,4090^G0,7^;", 8);
        inLabel("^H4096^O1^G-1^;", 8);
        inLabel("^O0,4043^B,50,0,1^Xa^;", 0);
        inLabel("^O0,4044^B,50,0,1^Xa^;", 8);
        inLabel("^O0,4044^B,50,0^Xa^;", 0);
        inLabel("^O-4044^B,50,1,1^Xa^;", 8);
        inLabel("^O0,-4044^B,50,2,1^Xa^;", 8);
        inLabel("^O4044^B,50,3,1^Xa^;", 8);
        inLabel("^O0,4095^W1,1^Xab^;", 0);
        inLabel("^O0,4096^W1,1^Xab^;", 8);
        inLabel("^O4000^W97,0,1,1^Xa^;", 0);
        inLabel("^O4001^W97,0,1,1^Xa^;", 8);
        inLabel("^W99,0,1,999^Xa^;", 8);
    }

    private static void uses() {
        inLabel("^U3", 9);
        fault("^S3^Z^L9,9^U3^E", 9);
        fault("^S3 ^Z^L9,9^U3^E", 0);
        fault("^S3^U3^Z^L9,9^U3^E", 9);
        fault("^S3^U4^Z^L9,9^U3^E", 9);
        String chain = "^S0^U1^Z^S1^U2^Z^S2^U3^Z";
        fault(chain + "^S3^R^Z^L9,9^U0^E", 0);
        fault(chain + "^S3^U4^Z^S4^R^Z^L9,9^U0^E", 9);
        fault(chain + "^S3^U4^Z^S4^R^Z^L9,9^U1^E", 0);
        fault(chain + "^S3^R^Z^L9,9^U0^U0^U0^U0^U0^U0^E", 0);
    }

    private static void tooMuch() {
        String sixty = "^S0" + times(60, "^F^;") + "^Z";
        fault(sixty + "^L9,9^U0^U0^E", 0);
        fault(sixty + "^L9,9^U0^U0^F^;", 10);
        fault(sixty + "^L9,9^U0" + times(59, "^F^;") + "^B,,,1^X1^;", 10);
        fault(sixty + "^L9,9^U0" + times(59, "^F^;") + "^B^X1^;^E", 0);
        fault(sixty + "^L9,9^U0" + times(41, "^F^;") + "^W1^X" + times(20, "a") + "^;", 10);
        fault(sixty + "^L9,9^U0^C2^E", 0);
        fault(sixty + "^L9,9^U0^C3^E", 10);
        fault(sixty + "^L9,9^U0^E^L9,9^U0^E", 0);
        fault(sixty + "^L9,9^U0^E^L9,9^U0^F^;", 11);
        fault(sixty + "^L9,9^U0^E^L9,9^U0^F^;^E", 10);
        fault(sixty + "^L9,9^U0^E^L9,9^U0^U0^E", 10);
        fault(sixty + "^L9,9^U0^E^L9,9^U0^U0^F^;", 10);
        fault(sixty + "^L9,9^U0^E^L9,9^U0^F^;^T^;", 8);
        fault("^L9,9^C12^E^L9,9^E", 10);
        fault(times(12, "^L9,9^E"), 0);
        fault(times(13, "^L9,9^E"), 10);
        fault("^L9,9^C2^E^L9,9^C11^E", 10);
        fault("^L9,9^C12^E^L9,9", 11);
    }

    /** A label's beginning that has 1802 commands, and behind it so many more that are all good. */
    private static String commands(int n) {
        String forms = "^S0" + times(199, "^R") + "^Z^S1" + times(9, "^U0") + "^Z";
        // Two commands store, one begins, one uses form 1, which has 9, with 199 in each.
        return forms + "^L9,9^U1" + times(n - 4 - 9 * 200, "^R");
    }

    private static void twoThousandCommands() {
        fault(commands(1998) + "^E", 0);
        fault(commands(1999) + "^E", 10);
        fault(commands(1999), 11);
        fault(commands(2000), 10);
        fault(commands(1999) + " x", 1);
        fault(commands(1999) + "^Y", 2);
        fault(commands(1999) + "^L9,9", 3);
        fault(commands(1999) + "^O,,", 4);
        fault(commands(1999) + "^C13", 5);
        fault(commands(1999) + "^X_", 6);
        fault(commands(1998) + "^T^;", 8);
        fault(commands(1999) + "^U7", 9);
        fault(commands(1999) + "^U1", 10);
        fault(commands(1998) + "^U0", 10);
        fault(commands(1998) + "^E^S1", 7);
        fault(commands(1997) + "^E^S1^Z", 0);

        LabelScript x = Checks.reading("^K1,old^S3^F^;^Z");
        Checks.due("K", Checks.outcome(x, commands(1998) + "^E^K1,new").substring(0, 8), "fault 10");
        Checks.due("S", Checks.outcome(x, commands(1998) + "^E^S3^Z").substring(0, 8), "fault 10");
        Checks.due("both stored nothing", Checks.outcome(x, "^L9,9^U3^T^V1^;^E"), "labels 1");
        Checks.due("the variable", Checks.dataOf(x, 1), "old");
    }

    private static void theFirstOfSeveral() {
        fault("^Lx", 5);
        fault("^L0,0,", 4);
        fault("^K10", 4);
        fault("^K10,_", 5);
        fault("^S8", 5);
        fault("^L9,9^S8,", 3);
        fault("^T_", 3);
        fault("^L9,9^Y^L", 2);
        fault("^L9,9^T^;x", 8);
        fault("^L9,9", 11);
        fault("^L9,9 ", 11);
        fault("^L9,9^T^Xa", 11);
        fault("^L9,9^E^L9,9^F^;", 11);
    }
}
