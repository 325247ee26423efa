/** Promise 6: the place of the fault; NONE when there is none. The places themselves: TermsPlaceTest. */
public final class Promise6PlaceTest {
    private static final String PROMISE = "Promise 6";

    public static void main(String[] args) {
        thePlaceOfThatFault();
        noneWhenThereIsNone();
        Checks.end();
    }

    private static void thePlaceOfThatFault() {
        Checks.sentence(PROMISE, "The place of that fault");
        LabelScript x = Checks.reading("x");
        Checks.due("place() at the very beginning", x.place(), 0);
        Checks.readAlone(x, "  x");
        Checks.due("place()", x.place(), 2);
        x.wipe();
        Checks.due("place() after wipe()", x.place(), 2);
        Checks.add(x, "^L9,9");
        Checks.due("place() before the next reading", x.place(), 2);
        x.read();
        Checks.due("place() of the next one", x.place(), 5);
        Checks.thrownBy(() -> x.write(9, 0L));
        Checks.thrownBy(() -> x.data(0, 0));
        x.label(12, 3);
        Checks.due("place() after refused calls", x.place(), 5);
    }

    private static void noneWhenThereIsNone() {
        Checks.sentence(PROMISE, "NONE when there is none");
        LabelScript x = new LabelScript();
        Checks.due("place() of a new object", x.place(), LabelScript.NONE);
        Checks.add(x, "x");
        Checks.due("place() of a text that is not read yet", x.place(), LabelScript.NONE);
        x.read();
        Checks.due("place()", x.place(), 0);
        Checks.readAlone(x, "^L9,9^E");
        Checks.due("place() of a good text", x.place(), LabelScript.NONE);
        Checks.readAlone(x, "");
        Checks.due("place() of an empty text", x.place(), LabelScript.NONE);
    }
}
