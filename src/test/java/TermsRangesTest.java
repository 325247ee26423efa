/** Terms, the paragraph RANGES: the least and the most are taken as they are, what is beyond is fault 5. */
public final class TermsRangesTest {
    private static final String TERMS = "Terms, RANGES";

    public static void main(String[] args) {
        points();
        texts();
        bars();
        framesAndEllipses();
        linesAndTheirWidth();
        squares();
        pictures();
        formsAndVariables();
        Checks.end();
    }

    private static String shownWith(String command, int number, String data) {
        LabelScript x = Checks.reading("^L9,9" + command + number + data + "^;^E");
        return x.fault() == 0 ? Checks.shown(x, 0) : "fault " + x.fault();
    }

    /** What the order shows as this number is what the command was told, at both ends of the range. */
    private static void shows(String command, int least, int most, String data, int what) {
        Checks.range("^L9,9" + command, least, most, data + "^E");
        for (int number : new int[] {least, most}) {
            String got = shownWith(command, number, data);
            String[] parts = got.split(" ");
            Checks.due(command + number + " shown in " + got, parts.length > what ? parts[what] : got, "" + number);
        }
        for (int number : new int[] {least - 1, most + 1, -99999, 99999}) {
            Checks.due(command + number, shownWith(command, number, data), "fault 5");
        }
    }

    private static void points() {
        Checks.sentence(TERMS, "x, y -4096 .. 4096");
        shows("^F^O", -4096, 4096, "", 1);
        shows("^F^O,", -4096, 4096, "", 2);
        shows("^F^H", -4096, 4096, "", 1);
        shows("^F^H,", -4096, 4096, "", 2);
        shows("^G", -4096, 4096, "", 5);
        shows("^G,", -4096, 4096, "", 6);
    }

    private static void texts() {
        Checks.sentence(TERMS, "f 0 .. 3; p, q 1 .. 10; r 0 .. 3");
        shows("^T", 0, 3, "^Xa", 5);
        shows("^T,", 1, 10, "^Xa", 6);
        shows("^T,,", 1, 10, "^Xa", 7);
        shows("^T,,,", 0, 3, "^Xa", 3);
        shows("^D", 0, 3, "^T^Xa", 5);
        shows("^D,", 1, 10, "^T^Xa", 6);
        shows("^D,,", 1, 10, "^T^Xa", 7);
        shows("^D,,,", 0, 3, "^T^Xa", 3);
    }

    private static void bars() {
        Checks.sentence(TERMS, "m 1 .. 50; h of bars and of thirteen figures");
        shows("^B", 1, 50, "^Xa", 5);
        shows("^B,", 1, 2048, "^Xa", 6);
        shows("^B,,", 0, 3, "^Xa", 3);
        shows("^N", 1, 50, "^X123456789012", 5);
        shows("^N,", 1, 2048, "^X123456789012", 6);
        shows("^N,,", 0, 3, "^X123456789012", 3);
        Checks.sentence(TERMS, "c 0 .. 1");
        Checks.range("^L9,9^B,,,", 0, 1, "^Xa^;^E");
    }

    private static void framesAndEllipses() {
        Checks.sentence(TERMS, "w, h of frames and ellipses 1 .. 2048; t 1 .. 200");
        for (String command : new String[] {"^F", "^I"}) {
            shows(command, 1, 2048, "", 5);
            shows(command + ",", 1, 2048, "", 6);
            shows(command + ",,", 1, 200, "", 7);
        }
    }

    private static void linesAndTheirWidth() {
        Checks.sentence(TERMS, "t 1 .. 200");
        shows("^G,,", 1, 200, "", 7);
    }

    private static void squares() {
        Checks.sentence(TERMS, "l 0 .. 3 and k -1 .. 7 of a square");
        shows("^Q", 1, 50, "^Xa", 5);
        shows("^Q,", 0, 3, "^Xa", 6);
        shows("^Q,,", -1, 7, "^Xa", 7);
        shows("^Q,,,", 0, 3, "^Xa", 3);
    }

    private static void pictures() {
        Checks.sentence(TERMS, "w of a picture 1 .. 1024");
        Checks.range("^L9,9^P", 1, 1024, "^E");
        Checks.dueOrders("^P1^X41^;", "7 0 0 0 0 1 0 0 [A]");
        Checks.dueOrders("^P800^X" + "41".repeat(100) + "^;", "7 0 0 0 0 800 0 0 [" + "A".repeat(100) + "]");
    }

    private static void formsAndVariables() {
        Checks.sentence(TERMS, "k of forms 0 .. 7, of variables 0 .. 9");
        Checks.range("^S", 0, 7, "^Z");
        Checks.range("^S0^R^Z^S7^R^Z^L9,9^U", 0, 7, "^E");
        Checks.range("^K", 0, 9, ",a");
        Checks.range("^L9,9^K", 0, 9, ",a^E");
        Checks.range("^L9,9^V", 0, 9, "^E");
    }
}
