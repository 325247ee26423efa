/** Promise 3: the text is empty then; the answer is how many bytes it had. */
public final class Promise3WipeTest {
    private static final String PROMISE = "Promise 3";

    public static void main(String[] args) {
        theTextIsEmptyThen();
        howManyItHad();
        onlyTheTextIsWiped();
        Checks.end();
    }

    private static void theTextIsEmptyThen() {
        Checks.sentence(PROMISE, "The text is empty then.");
        LabelScript x = Checks.reading("^L9,9^F^;^E");
        x.wipe();
        Checks.due("wipe() once more", x.wipe(), 0);
        Checks.due("read() of nothing", x.read(), 0);
        Checks.due("fault() then", x.fault(), 0);
        Checks.due("no label then", x.label(0, 0), LabelScript.NONE);
        Checks.due("write behind a wipe", x.write(3, 0L), 3);
        Checks.due("read() of blanks, nothing of the old text", x.read(), 0);
    }

    private static void howManyItHad() {
        Checks.sentence(PROMISE, "Answers how many bytes it had.");
        LabelScript x = new LabelScript();
        Checks.due("wipe() of nothing", x.wipe(), 0);
        x.write(1, 0L);
        Checks.due("wipe() of one", x.wipe(), 1);
        LabelScript large = new LabelScript();
        for (int n = 0; n < 511; n++) {
            large.write(8, -1L);
        }
        Checks.due("wipe() of 4088, as the last call promised", large.wipe(), 4088);
    }

    private static void onlyTheTextIsWiped() {
        Checks.sentence(PROMISE, "The text is empty then.");
        LabelScript x = Checks.reading(Checks.storeAll() + "^L9,9^F^;^E");
        String before = Checks.seen(x);
        x.wipe();
        Checks.due("what was read", Checks.seen(x), before);
        String kept = Checks.stored(Checks.reading(Checks.storeAll()));
        Checks.due("forms and variables", Checks.stored(x), kept);

        Checks.readAlone(x, " x");
        x.wipe();
        Checks.due("fault() stays", x.fault(), 1);
        Checks.due("place() stays", x.place(), 1);
    }
}
