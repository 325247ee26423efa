/** Terms, the paragraph FAULTS: fault 10, and which of several faults counts. */
public final class TermsTooMuchTest {
    public static void main(String[] args) {
        ordersOfALabel();
        labelsWithAllCopies();
        ordersWithAllCopies();
        twoThousandCommands();
        whatCountsAsACommand();
        theTwoThousandthStoresNothing();
        theFirstFaultOfACommand();
        theFirstFaultOfTheTwoThousandth();
        theFirstCommandThatHasOne();
        Checks.end();
    }

    private static void sentence(String words) {
        Checks.sentence("Terms, FAULTS, 10", words);
    }

    /** Form 0 has so many frames. */
    private static String frames(int n) {
        return "^S0" + "^F^;".repeat(n) + "^Z";
    }

    private static void ordersOfALabel() {
        sentence("; with which the label has more than 120 orders");
        Checks.fault(frames(60) + "^L9,9^U0^U0^E", 0);
        Checks.dueFault(frames(60) + "^L9,9^U0^U0^F^;", 10, 258);
        Checks.fault(frames(60) + "^L9,9^U0" + "^F^;".repeat(59) + "^B^X1^;^E", 0);
        Checks.fault(frames(60) + "^L9,9^U0" + "^F^;".repeat(59) + "^B,,,1^X1^;", 10);
        Checks.fault(frames(60) + "^L9,9^U0" + "^F^;".repeat(58) + "^B,,,1^X1^;^E", 0);
        Checks.fault(frames(60) + "^L9,9^U0" + "^F^;".repeat(40) + "^W1^X" + "a".repeat(20) + "^;^E", 0);
        Checks.fault(frames(60) + "^L9,9^U0" + "^F^;".repeat(41) + "^W1^X" + "a".repeat(20) + "^;", 10);
        // Orders of labels that have ended, and copies, are for E to count, not for ;.
        Checks.fault(frames(60) + "^L9,9^U0^E^L9,9^U0^F^;", 11);
        Checks.fault(frames(60) + "^L9,9^U0^E^L9,9^U0^U0", 11);
        Checks.fault(frames(60) + "^L9,9^U0^E^L9,9^U0^U0^F^;", 10);
        Checks.fault(frames(60) + "^L9,9^U0^C3^U0", 11);
        Checks.fault(frames(60) + "^L9,9^U0^E^L9,9^U0^F^;^T^;", 8);
    }

    private static void labelsWithAllCopies() {
        sentence("E with which there are more than 12 labels");
        Checks.fault("^L9,9^E".repeat(12), 0);
        Checks.dueFault("^L9,9^E".repeat(13), 10, 89);
        Checks.fault("^L9,9^C12^E", 0);
        Checks.fault("^L9,9^C12^E^L9,9", 11);
        Checks.dueFault("^L9,9^C12^E^L9,9^E", 10, 16);
        Checks.fault("^L9,9^C2^E^L9,9^C10^E", 0);
        Checks.fault("^L9,9^C2^E^L9,9^C11^E", 10);
        Checks.fault("^L9,9^E^L9,9^C12^E", 10);
        Checks.fault("^L9,9^C6^E^L9,9^C6^E^K1,a", 0);
    }

    private static void ordersWithAllCopies() {
        sentence("or 120 orders, with all copies");
        Checks.fault(frames(10) + "^L9,9^U0^C12^E", 0);
        Checks.fault(frames(11) + "^L9,9^U0^C11^E", 10);
        Checks.fault(frames(11) + "^L9,9^U0^C10^E", 0);
        Checks.fault(frames(60) + "^L9,9^U0^C2^E", 0);
        Checks.fault(frames(60) + "^L9,9^U0^F^;^C2^E", 10);
        Checks.fault(frames(60) + "^L9,9^U0^C3^E", 10);
        Checks.fault(frames(60) + "^L9,9^U0^E^L9,9^U0^E", 0);
        Checks.fault(frames(60) + "^L9,9^U0^E^L9,9^U0^F^;^E", 10);
        Checks.fault(frames(60) + "^L9,9^U0^E^L9,9^U0^U0^E", 10);
        Checks.fault(frames(60) + "^L9,9^U0^U0^E^L9,9^E", 0);
        Checks.fault(frames(60) + "^L9,9^U0^U0^E^L9,9^F^;^E", 10);
        Checks.fault(frames(60) + "^L9,9^U0^U0^E^L9,9^F^E", 0);
        Checks.fault(frames(60) + "^L9,9^U0^U0^C12^E", 10);
    }

    /** A text with so many good commands, which ends in a label; at least 1804. */
    private static String commands(int n) {
        String forms = "^S0" + "^R".repeat(199) + "^Z^S1" + "^U0".repeat(9) + "^Z";
        // Two commands store, one begins, one uses form 1, which has 9, with 199 in each.
        return forms + "^L9,9^U1" + "^R".repeat(n - 4 - 9 * 200);
    }

    private static void twoThousandCommands() {
        sentence("any command that is the two thousandth one of a reading");
        Checks.fault(commands(1998) + "^E", 0);
        Checks.fault(commands(1999), 11);
        Checks.dueFault(commands(1999) + "^E", 10, commands(1999).length());
        Checks.dueFault(commands(2000), 10, commands(1999).length());
        Checks.dueFault(commands(2010), 10, commands(1999).length());
        String[] commands = {"^K1,a", "^H", "^C", "^D", "^O", "^R", "^X1", "^V1", "^#", "^T", "^W1", "^B", "^N",
            "^Q", "^F", "^I", "^G", "^P"};
        for (String command : commands) {
            Checks.fault(commands(1998) + command, 11);
            Checks.dueFault(commands(1999) + command, 10, commands(1999).length());
        }
        Checks.dueFault(commands(1998) + "^U0", 10, commands(1998).length());
        Checks.dueFault(commands(1999) + "^U0", 10, commands(1999).length());
        Checks.fault(commands(1997) + "^F^;", 11);
        Checks.fault(commands(1998) + "^F^;", 10);
        Checks.fault(commands(1997) + "^E^L9,9", 11);
        Checks.fault(commands(1998) + "^E^L9,9", 10);
        Checks.fault(commands(1997) + "^E^S1^Z", 0);
        Checks.fault(commands(1998) + "^E^S1^Z", 10);
        LabelScript x = Checks.reading(commands(1998) + "^E");
        Checks.due("each reading counts anew", x.read(), 1);
    }

    private static void whatCountsAsACommand() {
        sentence("(those of forms count each time that they are read, and U; ^Z is none)");
        String forms = "^S0" + "^R".repeat(99) + "^Z";
        // Two commands store and begin, and each use has one hundred.
        Checks.fault(forms + "^L9,9" + "^U0".repeat(19) + "^R".repeat(97), 11);
        Checks.fault(forms + "^L9,9" + "^U0".repeat(19) + "^R".repeat(98), 10);
        Checks.dueFault(forms + "^L9,9" + "^U0".repeat(20), 10, forms.length() + 5 + 19 * 3);
        // Forms that are stored and not read have no commands that count.
        Checks.fault(forms.repeat(10) + "^L9,9" + "^U0".repeat(19) + "^R".repeat(88), 11);
        Checks.fault(forms.repeat(10) + "^L9,9" + "^U0".repeat(19) + "^R".repeat(89), 10);
        // Blanks are no commands.
        Checks.fault("^S0" + " ".repeat(400) + "^Z^L9,9" + "^U0".repeat(1000), 11);
    }

    private static void theTwoThousandthStoresNothing() {
        Checks.sentence("Promise 4", "forms and variables that were stored before it stay");
        LabelScript x = Checks.reading("^K1,old^S3^F^;^Z");
        Checks.due("K", Checks.outcome(x, commands(1998) + "^E^K1,new").substring(0, 8), "fault 10");
        Checks.due("S", Checks.outcome(x, commands(1998) + "^E^S3^Z").substring(0, 8), "fault 10");
        Checks.due("both stored nothing", Checks.outcome(x, "^L9,9^U3^T^V1^;^E"), "labels 1");
        Checks.due("the variable", Checks.dataOf(x, 1), "old");
        Checks.due("K before it", Checks.outcome(x, commands(1997) + "^E^K1,new^K2,b").substring(0, 8), "fault 10");
        Checks.due("the reading then", Checks.outcome(x, "^L9,9^T^V1^;^E"), "labels 1");
        Checks.due("the variable then", Checks.dataOf(x, 0), "new");
    }

    private static void theFirstFaultOfACommand() {
        Checks.sentence("Terms, FAULTS", "of which the first command that has one counts, and of these the first");
        // 3 before 4 to 9.
        Checks.fault("^O,,", 3);
        Checks.fault("^C13", 3);
        Checks.fault("^X_", 3);
        Checks.fault("^L9,9^S1", 3);
        Checks.fault("^L9,9^S8,", 3);
        Checks.fault("^U1", 3);
        // 4 before 5 to 9.
        Checks.fault("^L0,0,", 4);
        Checks.inLabel("^O5000,-", 4);
        Checks.inLabel("^O-,5000", 4);
        Checks.inLabel("^C13,", 4);
        Checks.inLabel("^C999999", 4);
        Checks.fault("^K10", 4);
        Checks.fault("^K1_", 4);
        Checks.fault("^S1,", 4);
        Checks.fault("^S8,", 4);
        Checks.inLabel("^U1,", 4);
        // 5 before 6 to 9.
        Checks.fault("^K10,_", 5);
        Checks.fault("^K10," + "a".repeat(201), 5);
        Checks.fault("^S8", 5);
        Checks.fault("^S8" + "a".repeat(401) + "^Z", 5);
        Checks.inLabel("^U8", 5);
        // 8 before 10, for the command ;.
        Checks.fault(frames(60) + "^L9,9^U0^U0^T^;", 8);
        Checks.fault(frames(60) + "^L9,9^U0^U0^H4096^O1^F^;", 8);
        Checks.fault(frames(60) + "^L9,9^U0" + "^F^;".repeat(59) + "^O,4096^W1,1^Xabc^;", 8);
        Checks.fault(frames(60) + "^L9,9^U0" + "^F^;".repeat(59) + "^O,4096^B,,,1^Xabc^;", 8);
    }

    private static void theFirstFaultOfTheTwoThousandth() {
        Checks.sentence("Terms, FAULTS", "of which the first command that has one counts, and of these the first");
        Checks.fault(commands(1999) + " x", 1);
        Checks.fault(commands(1999) + "^Y", 2);
        Checks.fault(commands(1999) + "^", 2);
        Checks.fault(commands(1999) + "^L9,9", 3);
        Checks.fault(commands(1999) + "^;", 3);
        Checks.fault(commands(1999) + "^O,,", 4);
        Checks.fault(commands(1999) + "^K1", 4);
        Checks.fault(commands(1999) + "^C13", 5);
        Checks.fault(commands(1999) + "^X_", 6);
        Checks.fault(commands(1999) + "^K1,_", 6);
        Checks.fault(commands(1998) + "^E^S1", 7);
        Checks.fault(commands(1998) + "^T^;", 8);
        Checks.fault(commands(1999) + "^U7", 9);
        Checks.fault(commands(1999) + "^U1", 10);
    }

    private static void theFirstCommandThatHasOne() {
        Checks.sentence("Terms, FAULTS", "of which the first command that has one counts");
        Checks.dueFault("^Lx", 5, 0);
        Checks.dueFault("^L9,9^Y^L", 2, 5);
        Checks.dueFault("^L9,9^T^;x", 8, 7);
        Checks.dueFault("^L9,9^U1 x", 9, 5);
        Checks.dueFault("^K1,_ ^", 6, 0);
        Checks.dueFault("^S1^F^;^Y", 7, 0);
        Checks.dueFault("^L9,9^C12^E^L9,9^Ex", 10, 16);
        Checks.dueFault("^L9,9^C13x^Y", 5, 5);
        Checks.dueFault("x^Y", 1, 0);
        Checks.dueFault("^L9,9 x", 1, 6);
    }
}
