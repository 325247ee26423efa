/** Promise 9: eight bytes of the data of an order, from byte i on. */
public final class Promise9DataTest {
    private static final String PROMISE = "Promise 9";

    public static void main(String[] args) {
        eightBytesFromByteI();
        zeroForEachThatItHasNot();
        noSuchOrder();
        ofTheLastReading();
        everyOrderHasItsOwn();
        Checks.end();
    }

    private static LabelScript nineBytes() {
        return Checks.reading("^L9,9^T^X_81_02_03_04_05_06_07_88_99^;^F^Xabc^;^T^Xabc^;^E");
    }

    private static void eightBytesFromByteI() {
        Checks.sentence(PROMISE, "Eight bytes of the data of order k, from byte i on, the first one as the lowest");
        LabelScript x = nineBytes();
        Checks.due("data(0, 0)", x.data(0, 0), 0x8807060504030281L);
        Checks.due("data(0, 1)", x.data(0, 1), 0x9988070605040302L);
        LabelScript full = Checks.reading("^L9,9^T^X" + "abcdefgh".repeat(25) + "^;^E");
        Checks.due("data(0, 192), the last eight", full.data(0, 192), 0x6867666564636261L);
        Checks.due("data(0, 193)", full.data(0, 193), 0x0068676665646362L);
        Checks.due("data(0, 199)", full.data(0, 199), 0x68L);
        Checks.due("data(0, 200)", full.data(0, 200), 0);
    }

    private static void zeroForEachThatItHasNot() {
        Checks.sentence(PROMISE, "0 for each that it has not (i may be any number)");
        LabelScript x = nineBytes();
        Checks.due("data(0, 2)", x.data(0, 2), 0x0099880706050403L);
        Checks.due("data(0, 8)", x.data(0, 8), 0x99L);
        Checks.due("data(0, 9)", x.data(0, 9), 0);
        Checks.due("data(0, 199)", x.data(0, 199), 0);
        Checks.due("data(0, -1)", x.data(0, -1), 0x0706050403028100L);
        Checks.due("data(0, -7)", x.data(0, -7), 0x8100000000000000L);
        Checks.due("data(0, -8)", x.data(0, -8), 0);
        for (int far = 0; far < 9; far++) {
            Checks.due("data(0, the most - " + far + ")", x.data(0, Integer.MAX_VALUE - far), 0);
            Checks.due("data(0, the least + " + far + ")", x.data(0, Integer.MIN_VALUE + far), 0);
        }
        Checks.due("data(1, 0) of a frame", x.data(1, 0), 0);
        Checks.due("data(2, 0) of three bytes", x.data(2, 0), 0x636261L);
        LabelScript lines = Checks.reading("^L9,9^W2^Xabcd^;^E");
        Checks.due("data(0, 0) of the first line", lines.data(0, 0), 0x6261L);
        Checks.due("data(1, 0) of the second one", lines.data(1, 0), 0x6463L);
        Checks.due("data(1, -1) of the second one", lines.data(1, -1), 0x646300L);
    }

    private static void noSuchOrder() {
        Checks.sentence(PROMISE, "IndexOutOfBoundsException: there is no such order.");
        LabelScript x = nineBytes();
        for (int k : new int[] {3, 119, 120, 121, -1, Integer.MIN_VALUE, Integer.MAX_VALUE}) {
            for (int i : new int[] {0, -1, 8, Integer.MIN_VALUE, Integer.MAX_VALUE}) {
                Checks.dueThrown("data(" + k + ", " + i + ")", () -> x.data(k, i), "IndexOutOfBoundsException");
            }
            Checks.dueUnchanged("data(" + k + ", 0)", Promise9DataTest::nineBytes,
                y -> Checks.thrownBy(() -> y.data(k, 0)));
        }
        LabelScript full = Checks.reading("^L9,9^C12" + "^F^;".repeat(10) + "^E");
        Checks.due("data(119, 0)", full.data(119, 0), 0);
        Checks.dueThrown("data(120, 0)", () -> full.data(120, 0), "IndexOutOfBoundsException");
        Checks.dueThrown("data(0, 0) of a new object", () -> new LabelScript().data(0, 0),
            "IndexOutOfBoundsException");
    }

    private static void ofTheLastReading() {
        Checks.sentence(PROMISE, "Eight bytes of the data of order k");
        LabelScript x = Checks.reading("^K1,old^L9,9^T^V1^;^E");
        x.wipe();
        Checks.due("data(0, 0) after wipe()", Checks.dataOf(x, 0), "old");
        Checks.add(x, "x");
        x.read();
        Checks.dueThrown("data(0, 0) after a fault", () -> x.data(0, 0), "IndexOutOfBoundsException");
        Checks.readAlone(x, "^L9,9^T^V1^;^K1,newer^T^V1^;^E");
        Checks.due("data of the first", Checks.dataOf(x, 0), "old");
        Checks.due("data of the second", Checks.dataOf(x, 1), "newer");
    }

    private static void everyOrderHasItsOwn() {
        Checks.sentence(PROMISE, "of the data of order k");
        LabelScript x = new LabelScript();
        Checks.readAlone(x, "^S0" + "^V1^T^;".repeat(40) + "^Z^K1," + "abcdefgh".repeat(25));
        Checks.readAlone(x, "^L9,9^U0^U0^K1,z^U0^E");
        Checks.due("orders", Checks.orderCount(x), 120);
        for (int k = 0; k < 120; k++) {
            Checks.due("size of order " + k, x.order(k, 8), k < 80 ? 200 : 1);
            Checks.due("first bytes of order " + k, x.data(k, 0), k < 80 ? 0x6867666564636261L : 'z');
            Checks.due("last bytes of order " + k, x.data(k, 192), k < 80 ? 0x6867666564636261L : 0);
        }
    }
}
