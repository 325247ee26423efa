/** Promise 4: the text is read; the answer is how many labels come of it, or NONE. */
public final class Promise4ReadTest {
    private static final String PROMISE = "Promise 4";

    public static void main(String[] args) {
        theTextStays();
        eachReadingBeginsAnew();
        manyReadings();
        howManyLabels();
        noneWhenThereIsAFault();
        noLabelsAndOrdersThen();
        whatWasStoredBeforeStays();
        theCommandWithTheFaultStoresNothing();
        Checks.end();
    }

    private static void theTextStays() {
        Checks.sentence(PROMISE, "Reads the text, which stays");
        LabelScript x = new LabelScript();
        Checks.add(x, "^L5,5");
        Checks.due("read()", x.read(), LabelScript.NONE);
        Checks.add(x, "^F^;^E");
        Checks.due("read() of more", x.read(), 1);
        String first = Checks.seen(x);
        Checks.due("read() once more", x.read(), 1);
        Checks.due("the same", Checks.seen(x), first);
        Checks.due("wipe()", x.wipe(), 11);
        Checks.due("what was read", Checks.seen(x), first);
    }

    /** Whatever the reading before it left: a label, a field or a form that was not read to its end. */
    private static void eachReadingBeginsAnew() {
        Checks.sentence(PROMISE, "Reads the text");
        String text = "^S1^R^Z^K1,b7^L9,9^U1^T^V1^;^F^;^E";
        String want = Checks.seen(Checks.reading(text));
        String[] before = {
            "^L5,5^E", "^L5,5", "^L5,5^H1,1^D1,2,2,1^C5^O2,2^R^#1^X1^Q", "^L5,5^F^;", "^S1^R^Y^Z^L5,5^U1",
            "^S1^U2^R^Z^S2^U3^R^Z^S3^U4^R^Z^S4^O1^R^Y^Z^L5,5^U1", "^S1^U1^Z^L5,5^U1", "^S1x^Z^L5,5^U1",
            "^L5,5^C12^E^L5,5^F^;^E", "^K1,_", "^S1"
        };
        for (String other : before) {
            LabelScript x = Checks.reading(other);
            Checks.due("read() after " + other, Checks.readAlone(x, text), 1);
            Checks.due("what it read after " + other, Checks.seen(x), want);
        }
    }

    private static void manyReadings() {
        Checks.sentence(PROMISE, "Reads the text");
        LabelScript x = new LabelScript();
        Checks.add(x, "^S0" + "^V1^T^;".repeat(50) + "^Z^K1,abc^L9,9^U0^U0^E");
        for (int n = 0; n < 20; n++) {
            Checks.due("read() " + n, x.read(), 1);
        }
        Checks.due("orders", x.label(0, 3), 100);
        for (int k = 0; k < 100; k++) {
            Checks.due("data of order " + k, x.data(k, 0), 0x636261L);
        }
        x.wipe();
        Checks.add(x, "^K1,de^L9,9^U0^E");
        Checks.due("read() of another", x.read(), 1);
        for (int k = 0; k < 50; k++) {
            Checks.due("data of order " + k + " then", x.data(k, 0), 0x6564L);
        }
        Checks.dueThrown("order(50, 0)", () -> x.order(50, 0), "IndexOutOfBoundsException");
    }

    private static void howManyLabels() {
        Checks.sentence(PROMISE, "how many labels come of it, copies counted");
        Checks.dueLabels("", 0);
        Checks.dueLabels(" \n\t\0", 0);
        Checks.dueLabels("^K1,a", 0);
        Checks.dueLabels("^S1^L9,9^E^Z", 0);
        Checks.dueLabels("^L1,1^E", 1);
        Checks.dueLabels("^L1024,1024^E^L1,1^E", 2);
        Checks.dueLabels("^L1,1^C12^E", 12);
        Checks.dueLabels("^L1,1^C11^E^L1,1^E", 12);
        Checks.dueLabels("^L1,1^C5^E^L1,1^C7^E", 12);
        Checks.dueLabels("^L1,1^E".repeat(12), 12);
        Checks.dueLabels("^L1,1^C5^E^L1,1^E", 6);
    }

    private static void noneWhenThereIsAFault() {
        Checks.sentence(PROMISE, "NONE when there is a fault");
        String[] faults = {
            "x", "^Y", "^T", "^K1", "^K10,a", "^K1,_", "^S1", "^L9,9^T^;", "^L9,9^U1", "^L9,9^C12^E^L9,9^E", "^L9,9"
        };
        for (int n = 0; n < faults.length; n++) {
            LabelScript x = new LabelScript();
            Checks.due("read() of " + faults[n], Checks.readAlone(x, faults[n]), LabelScript.NONE);
            Checks.due("fault()", x.fault(), n + 1);
            Checks.due("read() once more", x.read(), LabelScript.NONE);
            Checks.due("fault() then", x.fault(), n + 1);
            Checks.due("wipe()", x.wipe(), faults[n].length());
        }
    }

    private static void noLabelsAndOrdersThen() {
        Checks.sentence(PROMISE, "there are no labels and orders then");
        String[] behind = {
            "x", "^Y", "^T", "^K1", "^K10,a", "^K1,_", "^S1", "^L9,9^T^;", "^L9,9^U1", "^L9,9^C12^E", "^L9,9^F^;"
        };
        for (String fault : behind) {
            LabelScript x = Checks.reading("^L9,9^F^;^E");
            Checks.due("read() of a label and " + fault, Checks.readAlone(x, "^L9,9^F^;^E" + fault), LabelScript.NONE);
            for (int what = 0; what <= 3; what++) {
                Checks.due("label(0, " + what + ")", x.label(0, what), LabelScript.NONE);
            }
            Checks.dueThrown("order(0, 0)", () -> x.order(0, 0), "IndexOutOfBoundsException");
            Checks.dueThrown("data(0, 0)", () -> x.data(0, 0), "IndexOutOfBoundsException");
            Checks.due("a good one then", Checks.outcome(x, "^L7,7^I^;^E"), "labels 1");
            Checks.due("its order", Checks.shown(x, 0), "5 0 0 0 0 1 1 1 []");
            Checks.due("no order behind it", Checks.thrownBy(() -> x.order(1, 0)), "IndexOutOfBoundsException");
        }
    }

    /** The fault stands behind what is stored, and in front of what must not be. */
    private static void whatWasStoredBeforeStays() {
        Checks.sentence(PROMISE, "but forms and variables that were stored before it stay");
        String before = "^S3^F99^;^Z^K3,new^L9,9^K4,inner^F^;^E";
        String late = "^K5,late^S5^F98^;^Z";
        String want = Checks.stored(stored(before));
        String[] faults = {
            "x" + late, "^Y" + late, "^T" + late, "^K1" + late, "^K10,a" + late, "^K1,_" + late,
            "^S1^F97^;" + "^".repeat(401) + "^Z" + late, "^L9,9^T^;^E" + late, "^L9,9^C12^E" + late, "^L9,9^F^;"
        };
        for (String fault : faults) {
            LabelScript x = stored(before + fault);
            Checks.due("read() of " + fault, x.read(), LabelScript.NONE);
            Checks.due("what is stored after " + fault, Checks.stored(x), want);
        }
        LabelScript x = stored("^S3^F99^;^Z^K3,new^S6^Z^L9,9^U6^E" + late);
        Checks.due("fault()", x.fault(), 9);
        Checks.due("after fault 9", Checks.outcome(x, "^L9,9^U3^U5^T^V3^;^T^V5^;^E"), "labels 1");
        Checks.due("form 3", x.order(0, 5), 99);
        Checks.due("form 5", x.order(1, 5), 15);
        Checks.due("variable 3", Checks.dataOf(x, 2), "new");
        Checks.due("variable 5", Checks.dataOf(x, 3), "v5");
    }

    /** All forms and variables are stored by an earlier reading, and then this text is read. */
    private static LabelScript stored(String text) {
        LabelScript x = Checks.reading(Checks.storeAll());
        Checks.readAlone(x, text);
        return x;
    }

    private static void theCommandWithTheFaultStoresNothing() {
        Checks.sentence(PROMISE, "but forms and variables that were stored before it stay");
        String want = Checks.stored(stored(""));
        String[] refused = {
            "^K1", "^K-,b", "^K000001,b", "^K10,b", "^K-1,b", "^K1,b_4", "^K1," + "b".repeat(201), "^S1", "^S1,^Z",
            "^S8^R^Z", "^S-1^R^Z", "^S1^R", "^S1^R^", "^S1" + "b".repeat(401) + "^Z", "^L9,9^S1^R^Z", "^L9,9^K1,_"
        };
        for (String text : refused) {
            LabelScript x = stored(text);
            Checks.due("read() of " + text, x.read(), LabelScript.NONE);
            Checks.due("what is stored after " + text, Checks.stored(x), want);
        }
    }
}
