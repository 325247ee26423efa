/** Promise 3: the text is empty then; the answer is how many bytes it had. */
public final class Promise3WipeTest {
    public static void main(String[] args) {
        LabelScript x = new LabelScript();
        Checks.due("wipe() of nothing", x.wipe(), 0);
        Checks.add(x, "^S1^F^;^Z^K2,7^L9,9^U1^E");
        Checks.due("read()", x.read(), 1);
        Checks.due("wipe()", x.wipe(), 24);
        Checks.due("wipe() once more", x.wipe(), 0);
        Checks.due("what was read stays", Checks.shown(x, 0), "4 0 0 0 0 1 1 1 []");
        Checks.due("read() of nothing", x.read(), 0);
        Checks.due("no label then", x.label(0, 0), LabelScript.NONE);
        Checks.due("forms and variables stay", Checks.outcome(x, "^L9,9^U1^T^V2^;^E"), "labels 1");

        Checks.readAlone(x, "x");
        x.wipe();
        Checks.due("fault() stays", x.fault(), 1);
        Checks.due("place() stays", x.place(), 0);
        Checks.due("write behind a wipe", x.write(3, 0L), 3);
        Checks.end();
    }
}
