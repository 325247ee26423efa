/** Promise 5: the fault that the last reading met, or 0. The faults themselves are tested by TermsFaultsTest. */
public final class Promise5FaultTest {
    private static final String PROMISE = "Promise 5";

    public static void main(String[] args) {
        oneToEleven();
        ofTheLastReading();
        zeroWhenThereIsNone();
        Checks.end();
    }

    private static void oneToEleven() {
        Checks.sentence(PROMISE, "The fault that the last reading met, 1 .. 11");
        Checks.fault("x", 1);
        Checks.fault("^Y", 2);
        Checks.fault("^T", 3);
        Checks.fault("^K1", 4);
        Checks.fault("^L", 5);
        Checks.fault("^K1,_", 6);
        Checks.fault("^S1", 7);
        Checks.fault("^L9,9^T^;", 8);
        Checks.fault("^L9,9^U1", 9);
        Checks.fault("^L9,9^C12^E^L9,9^E", 10);
        Checks.fault("^L9,9", 11);
    }

    private static void ofTheLastReading() {
        Checks.sentence(PROMISE, "The fault that the last reading met");
        LabelScript x = Checks.reading("x");
        x.wipe();
        Checks.due("fault() after wipe()", x.fault(), 1);
        Checks.add(x, "^L9,9");
        Checks.due("fault() before the next reading", x.fault(), 1);
        x.read();
        Checks.due("fault() of the next one", x.fault(), 11);
        Checks.thrownBy(() -> x.write(0, 0L));
        Checks.thrownBy(() -> x.order(0, 9));
        x.label(0, 0);
        Checks.due("fault() after refused calls", x.fault(), 11);
        Checks.due("fault() once more", x.fault(), 11);
    }

    private static void zeroWhenThereIsNone() {
        Checks.sentence(PROMISE, "0 when it met none, or there was none");
        LabelScript x = new LabelScript();
        Checks.due("fault() of a new object", x.fault(), 0);
        Checks.add(x, "x");
        Checks.due("fault() of a text that is not read yet", x.fault(), 0);
        x.read();
        Checks.due("fault()", x.fault(), 1);
        Checks.readAlone(x, "^L9,9^E");
        Checks.due("fault() of a good text", x.fault(), 0);
        Checks.readAlone(x, "");
        Checks.due("fault() of an empty text", x.fault(), 0);
    }
}
