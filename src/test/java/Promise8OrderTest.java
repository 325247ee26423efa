/** Promise 8: kind, place, quarter, way, numbers and size of data of an order. Which ones: TermsOrdersTest. */
public final class Promise8OrderTest {
    private static final String PROMISE = "Promise 8";

    public static void main(String[] args) {
        whatAnOrderHas();
        howManyBytes();
        anotherWhat();
        noSuchOrder();
        ofTheLastReading();
        Checks.end();
    }

    private static void whatAnOrderHas() {
        Checks.sentence(PROMISE, "its kind (what = 0), x (1), y (2), r (3), way (4), a, b, c (5, 6, 7), "
            + "how many bytes its data has (8)");
        LabelScript x = Checks.reading("^L9,9^F^;^H1,2^O10,20^R^Q5,2,7,3^Xabcd^;^E");
        int[] want = {3, 11, 22, 3, 2, 5, 2, 7, 4};
        for (int what = 0; what <= 8; what++) {
            Checks.due("order(1, " + what + ")", x.order(1, what), want[what]);
        }
    }

    private static void howManyBytes() {
        Checks.sentence(PROMISE, "how many bytes its data has (8)");
        LabelScript x = Checks.reading("^L9,9^T^X" + "_41".repeat(200) + "^;^P^X" + "41".repeat(100) + "^;^F^Xab^;"
            + "^W5^X_0Aab^;^T^Xa^;^E");
        int[] want = {200, 100, 0, 0, 2, 1};
        for (int k = 0; k < want.length; k++) {
            Checks.due("order(" + k + ", 8)", x.order(k, 8), want[k]);
        }
    }

    private static void anotherWhat() {
        Checks.sentence(PROMISE, "IllegalArgumentException: another what.");
        LabelScript x = Checks.reading("^L9,9^F^;^E");
        for (int what : new int[] {-1, 9, 13, 14, Integer.MIN_VALUE, Integer.MAX_VALUE}) {
            for (int k : new int[] {0, 1, -1, 120, Integer.MIN_VALUE, Integer.MAX_VALUE}) {
                Checks.dueThrown("order(" + k + ", " + what + ")", () -> x.order(k, what), "IllegalArgumentException");
            }
            Checks.dueUnchanged("order(0, " + what + ")", () -> Checks.reading("^L9,9^F^;^E"),
                y -> Checks.thrownBy(() -> y.order(0, what)));
        }
        Checks.dueThrown("order(0, 9) of a new object", () -> new LabelScript().order(0, 9),
            "IllegalArgumentException");
    }

    private static void noSuchOrder() {
        Checks.sentence(PROMISE, "IndexOutOfBoundsException: there is no such order.");
        LabelScript x = Checks.reading("^L9,9^F^;^E");
        for (int k : new int[] {1, 119, 120, 121, -1, Integer.MIN_VALUE, Integer.MAX_VALUE}) {
            for (int what = 0; what <= 8; what++) {
                int w = what;
                Checks.dueThrown("order(" + k + ", " + w + ")", () -> x.order(k, w), "IndexOutOfBoundsException");
            }
            Checks.dueUnchanged("order(" + k + ", 0)", () -> Checks.reading("^L9,9^F^;^E"),
                y -> Checks.thrownBy(() -> y.order(k, 0)));
        }
        LabelScript full = Checks.reading("^L9,9^C12" + "^F^;".repeat(10) + "^E");
        Checks.due("order(119, 0)", full.order(119, 0), 4);
        Checks.dueThrown("order(120, 0)", () -> full.order(120, 0), "IndexOutOfBoundsException");
        LabelScript none = Checks.reading("^L9,9^F^E");
        Checks.dueThrown("order(0, 0) of a label without orders", () -> none.order(0, 0), "IndexOutOfBoundsException");
        Checks.dueThrown("order(0, 0) of a new object", () -> new LabelScript().order(0, 0),
            "IndexOutOfBoundsException");
    }

    private static void ofTheLastReading() {
        Checks.sentence(PROMISE, "Of order k of all that were read");
        LabelScript x = Checks.reading("^L9,9^F^;^E^L9,9^I^;^G^;^E");
        Checks.due("order(0, 0)", x.order(0, 0), 4);
        Checks.due("order(1, 0), of the second label", x.order(1, 0), 5);
        Checks.due("order(2, 0)", x.order(2, 0), 6);
        x.wipe();
        Checks.add(x, "^L9,9^Q^Xa^;^E");
        Checks.due("order(0, 0) before the next reading", x.order(0, 0), 4);
        x.read();
        Checks.due("order(0, 0) then", x.order(0, 0), 3);
        Checks.dueThrown("order(1, 0) then", () -> x.order(1, 0), "IndexOutOfBoundsException");
    }
}
