import java.util.function.Consumer;
import java.util.function.Supplier;

/** Terms, the last paragraph: what methods throw, and what a call that throws or answers NONE changes. */
public final class TermsCallsTest {
    private static final String TERMS = "Terms, Methods throw what their comments name";

    public static void main(String[] args) {
        theOneNamedFirst();
        beforeTheyAnswerNone();
        nothingIsChanged();
        butForRead();
        Checks.end();
    }

    private static void theOneNamedFirst() {
        Checks.sentence(TERMS, "the one named first when several would do");
        LabelScript x = Checks.reading("^L9,9^F^;^E");
        for (int k : new int[] {1, -1, 120, Integer.MIN_VALUE, Integer.MAX_VALUE}) {
            for (int what : new int[] {9, -1, Integer.MIN_VALUE, Integer.MAX_VALUE}) {
                Checks.dueThrown("order(" + k + ", " + what + ")", () -> x.order(k, what), "IllegalArgumentException");
            }
            Checks.dueThrown("order(" + k + ", 8)", () -> x.order(k, 8), "IndexOutOfBoundsException");
            Checks.dueThrown("order(" + k + ", 0)", () -> x.order(k, 0), "IndexOutOfBoundsException");
        }
        Checks.dueThrown("order(0, 9)", () -> x.order(0, 9), "IllegalArgumentException");
    }

    private static void beforeTheyAnswerNone() {
        Checks.sentence(TERMS, "they throw before they answer NONE");
        LabelScript x = new LabelScript();
        Checks.due("label(0, 3)", x.label(0, 3), LabelScript.NONE);
        Checks.dueThrown("label(0, 4)", () -> x.label(0, 4), "IllegalArgumentException");
        Checks.dueThrown("label(-1, -1)", () -> x.label(-1, -1), "IllegalArgumentException");
        // Behind the 512 calls that are promised, but within them no text is too full for a call.
        Checks.add(x, " ".repeat(4096));
        Checks.due("write(8, 0) of a full text", x.write(8, 0L), LabelScript.NONE);
        Checks.dueThrown("write(9, 0) of a full text", () -> x.write(9, 0L), "IllegalArgumentException");
        Checks.dueThrown("write(0, 0) of a full text", () -> x.write(0, 0L), "IllegalArgumentException");
    }

    private static void nothingIsChanged() {
        Checks.sentence(TERMS, "a call that throws, or answers NONE, changes nothing (but for read())");
        unchangedBy("write(0, -1)", x -> Checks.thrownBy(() -> x.write(0, -1L)));
        unchangedBy("write(9, -1)", x -> Checks.thrownBy(() -> x.write(9, -1L)));
        unchangedBy("label(2, 0)", x -> x.label(2, 0));
        unchangedBy("label(-1, 3)", x -> x.label(-1, 3));
        unchangedBy("label(0, 4)", x -> Checks.thrownBy(() -> x.label(0, 4)));
        unchangedBy("order(0, 9)", x -> Checks.thrownBy(() -> x.order(0, 9)));
        unchangedBy("order(3, 0)", x -> Checks.thrownBy(() -> x.order(3, 0)));
        unchangedBy("order(-1, 0)", x -> Checks.thrownBy(() -> x.order(-1, 0)));
        unchangedBy("data(3, 0)", x -> Checks.thrownBy(() -> x.data(3, 0)));
        unchangedBy("data(-1, 0)", x -> Checks.thrownBy(() -> x.data(-1, 0)));

        LabelScript full = Checks.reading(" ".repeat(4088) + "^L7,8^E");
        Checks.due("write(2, ..) to 4097", full.write(2, 0x7878L), LabelScript.NONE);
        Checks.due("read()", full.read(), 1);
        Checks.due("wipe()", full.wipe(), 4095);
    }

    /** In each state in which an object can be. */
    private static void unchangedBy(String call, Consumer<LabelScript> refused) {
        Supplier<LabelScript> good = () -> Checks.reading(Checks.storeAll() + "^L7,8^C2^T^Xa7^#1^;^E");
        Supplier<LabelScript> faulty = () -> Checks.reading(Checks.storeAll() + "^L7,8^T^Xa7^#1^;^Y");
        Supplier<LabelScript> rewritten = () -> {
            LabelScript x = good.get();
            x.wipe();
            Checks.add(x, "^L5,6^I^;^E");
            return x;
        };
        Checks.dueUnchanged(call + " of a new object", LabelScript::new, refused);
        Checks.dueUnchanged(call + " after a good reading", good, refused);
        Checks.dueUnchanged(call + " after a fault", faulty, refused);
        Checks.dueUnchanged(call + " with another text than was read", rewritten, refused);
    }

    private static void butForRead() {
        Checks.sentence(TERMS, "(but for read())");
        LabelScript x = Checks.reading("^L7,8^F^;^E");
        Checks.add(x, "^K1,a^Y");
        Checks.due("read()", x.read(), LabelScript.NONE);
        Checks.due("fault()", x.fault(), 2);
        Checks.due("place()", x.place(), 16);
        Checks.due("label(0, 0)", x.label(0, 0), LabelScript.NONE);
        Checks.due("the variable", Checks.outcome(x, "^L7,8^T^V1^;^E"), "labels 1");
    }
}
