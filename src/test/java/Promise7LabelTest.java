/** Promise 7: width, height, first order and number of orders of a label. */
public final class Promise7LabelTest {
    private static final String PROMISE = "Promise 7";
    private static final int NONE = LabelScript.NONE;

    public static void main(String[] args) {
        whatALabelHas();
        noneSuch();
        anotherWhat();
        ofTheLastReading();
        Checks.end();
    }

    private static void due(LabelScript x, int k, int width, int height, int first, int count) {
        int[] want = {width, height, first, count};
        for (int what = 0; what <= 3; what++) {
            Checks.due("label(" + k + ", " + what + ")", x.label(k, what), want[what]);
        }
    }

    private static LabelScript sixLabels() {
        return Checks.reading("^L100,50^F^;^F^;^E^L1,1024^E^L7,8^C3^B,,,1^Xa^;^F^E^L1024,1^W1^Xabc^;^E");
    }

    private static void whatALabelHas() {
        Checks.sentence(PROMISE, "its width (what = 0), height (1), the number of its first order among all (2), "
            + "how many orders it has (3)");
        LabelScript x = sixLabels();
        due(x, 0, 100, 50, 0, 2);
        due(x, 1, 1, 1024, 2, 0);
        due(x, 2, 7, 8, 2, 2);
        due(x, 3, 7, 8, 4, 2);
        due(x, 4, 7, 8, 6, 2);
        due(x, 5, 1024, 1, 8, 3);
        x = Checks.reading("^L3,4^C12" + "^F^;".repeat(10) + "^E");
        due(x, 0, 3, 4, 0, 10);
        due(x, 11, 3, 4, 110, 10);
        x = Checks.reading("^S1" + "^F^;".repeat(60) + "^Z^L3,4^U1^U1^E^L5,6^E");
        due(x, 0, 3, 4, 0, 120);
        due(x, 1, 5, 6, 120, 0);
    }

    private static void noneSuch() {
        Checks.sentence(PROMISE, "NONE when there is none such");
        LabelScript x = sixLabels();
        for (int k : new int[] {6, 7, 11, 12, 13, -1, Integer.MIN_VALUE, Integer.MAX_VALUE}) {
            due(x, k, NONE, NONE, NONE, NONE);
        }
        x = Checks.reading("^L3,4^C12^E");
        due(x, 11, 3, 4, 0, 0);
        due(x, 12, NONE, NONE, NONE, NONE);
        due(Checks.reading(""), 0, NONE, NONE, NONE, NONE);
        due(Checks.reading("^L3,4^F^;"), 0, NONE, NONE, NONE, NONE);
        due(new LabelScript(), 0, NONE, NONE, NONE, NONE);
        Checks.dueUnchanged("label(6, 0)", () -> Checks.reading("^L3,4^F^;^E"), y -> y.label(6, 0));
    }

    private static void anotherWhat() {
        Checks.sentence(PROMISE, "IllegalArgumentException: another what.");
        LabelScript x = sixLabels();
        for (int what : new int[] {-1, 4, 9, Integer.MIN_VALUE, Integer.MAX_VALUE}) {
            for (int k : new int[] {0, 5, 6, -1, Integer.MIN_VALUE, Integer.MAX_VALUE}) {
                Checks.dueThrown("label(" + k + ", " + what + ")", () -> x.label(k, what), "IllegalArgumentException");
            }
            Checks.dueUnchanged("label(0, " + what + ")", () -> Checks.reading("^L3,4^F^;^E"),
                y -> Checks.thrownBy(() -> y.label(0, what)));
        }
        Checks.dueThrown("label(0, 4) of a new object", () -> new LabelScript().label(0, 4),
            "IllegalArgumentException");
    }

    private static void ofTheLastReading() {
        Checks.sentence(PROMISE, "Of label k that was read");
        LabelScript x = sixLabels();
        x.wipe();
        Checks.add(x, "x");
        due(x, 0, 100, 50, 0, 2);
        x.read();
        due(x, 0, NONE, NONE, NONE, NONE);
        Checks.readAlone(x, "^L3,4^E");
        due(x, 0, 3, 4, 0, 0);
        due(x, 1, NONE, NONE, NONE, NONE);
    }
}
