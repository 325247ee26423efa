/** Promise 7: width, height, first order and number of orders of a label. */
public final class Promise7LabelTest {
    private static void due(LabelScript x, int k, int width, int height, int first, int count) {
        int[] want = {width, height, first, count};
        for (int what = 0; what <= 3; what++) {
            Checks.due("label(" + k + ", " + what + ")", x.label(k, what), want[what]);
        }
    }

    public static void main(String[] args) {
        LabelScript x = Checks.reading("^L100,50^F^;^F^;^E^L1,1024^E^L7,8^C3^B,,,1^Xa^;^F^E^L1024,1^W1^Xabc^;^E");
        due(x, 0, 100, 50, 0, 2);
        due(x, 1, 1, 1024, 2, 0);
        due(x, 2, 7, 8, 2, 2);
        due(x, 3, 7, 8, 4, 2);
        due(x, 4, 7, 8, 6, 2);
        due(x, 5, 1024, 1, 8, 3);
        for (int k : new int[] {6, 12, 13, -1, Integer.MIN_VALUE, Integer.MAX_VALUE}) {
            due(x, k, LabelScript.NONE, LabelScript.NONE, LabelScript.NONE, LabelScript.NONE);
        }
        for (int what : new int[] {-1, 4, 9, Integer.MIN_VALUE, Integer.MAX_VALUE}) {
            Checks.due("label(0, " + what + ")", Checks.thrownBy(() -> x.label(0, what)), "IllegalArgumentException");
            Checks.due("label(9, " + what + ")", Checks.thrownBy(() -> x.label(9, what)), "IllegalArgumentException");
        }

        x.wipe();
        Checks.add(x, "x");
        due(x, 0, 100, 50, 0, 2);
        x.read();
        due(x, 0, LabelScript.NONE, LabelScript.NONE, LabelScript.NONE, LabelScript.NONE);
        Checks.readAlone(x, "^L3,4^C12^F^;^E");
        due(x, 11, 3, 4, 11, 1);
        Checks.readAlone(x, "^L3,4^E");
        due(x, 0, 3, 4, 0, 0);
        due(x, 1, LabelScript.NONE, LabelScript.NONE, LabelScript.NONE, LabelScript.NONE);
        Checks.end();
    }
}
