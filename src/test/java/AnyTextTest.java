import java.util.Random;

/** Whatever the text is: no call throws but as the document says, and the answers fit one another. */
public final class AnyTextTest {
    private static final String[] PARTS = {
        "^L9,9", "^E", "^;", "^F", "^T", "^W3,1,2,1", "^B,,,1", "^N", "^Q", "^P9", "^I", "^G5,5", "^Xab 12", "^X0a1b",
        "^X123456789012", "^V1", "^K1,c7", "^S1^F^;^U2^Z", "^S2^R^O1,1^Z", "^U1", "^U2", "^C3", "^#-7", "^H1,1",
        "^O4096", "^D1,2,3,3", "^R", "^Z", "^", "_", "_4", ",", "-", "99999", " ", "\n", "x", "\u00ff", "\0"
    };

    public static void main(String[] args) {
        Checks.sentence("Terms, the last paragraph", "Methods throw what their comments name");
        Random random = new Random(20261115);
        LabelScript x = new LabelScript();
        for (int n = 0; n < 3000; n++) {
            if (n % 50 == 0) {
                x = new LabelScript();
            }
            StringBuilder text = new StringBuilder(random.nextInt(4) > 0 ? "^L9,9" : "");
            for (int parts = random.nextInt(40); parts > 0; parts--) {
                text.append(PARTS[random.nextInt(PARTS.length)]);
            }
            text.append(random.nextBoolean() ? "^E" : "");
            look(x, text.toString());
        }
        Checks.end();
    }

    private static void look(LabelScript x, String text) {
        int labels = Checks.readAlone(x, text);
        boolean good = labels != LabelScript.NONE;
        Checks.due("fault() there is: " + text, x.fault() == 0 ? 1 : 0, good ? 1 : 0);
        Checks.due("place() there is: " + text, x.place() == LabelScript.NONE ? 1 : 0, good ? 1 : 0);
        Checks.due("place() in the text: " + text, x.place() <= text.length() ? 1 : 0, 1);
        Checks.due("label behind the last: " + text, x.label(Math.max(labels, 0), 0), LabelScript.NONE);
        int orders = 0;
        for (int k = 0; k < labels; k++) {
            Checks.due("first order of label " + k + ": " + text, x.label(k, 2), orders);
            orders += x.label(k, 3);
        }
        for (int k = 0; k < orders; k++) {
            Checks.shown(x, k);
            Checks.due("behind the data of order " + k + ": " + text, x.data(k, x.order(k, 8)), 0);
        }
        int behind = orders;
        Checks.due("order behind the last", Checks.thrownBy(() -> x.order(behind, 0)), "IndexOutOfBoundsException");
    }
}
