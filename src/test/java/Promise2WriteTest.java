/** Promise 2: the n lowest bytes of a long, the lowest first, come behind the text. */
public final class Promise2WriteTest {
    public static void main(String[] args) {
        counts();
        bytes();
        full();
        wrongNumbers();
        Checks.end();
    }

    private static void counts() {
        LabelScript x = new LabelScript();
        int size = 0;
        for (int n = 1; n <= 8; n++) {
            size += n;
            Checks.due("write(" + n + ", -1)", x.write(n, -1L), size);
        }
        Checks.due("wipe()", x.wipe(), 36);
    }

    private static void bytes() {
        LabelScript x = new LabelScript();
        // "^L9,9^T^" and then "X", of whose long the seven higher bytes must stay out.
        x.write(8, 0x5E545E392C394C5EL);
        x.write(1, 0x5A5A5A5A5A5A5A58L);
        Checks.add(x, "\u0000\u0080\u00ff\u007f^;^E");
        Checks.due("read()", x.read(), 1);
        Checks.due("bytes above 127", Checks.dataOf(x, 0), "\u0000\u0080\u00ff\u007f");
    }

    private static void full() {
        LabelScript x = new LabelScript();
        for (int i = 0; i < 511; i++) {
            x.write(8, 0x2020202020202020L);
        }
        Checks.due("write(7, blanks)", x.write(7, 0x2020202020202020L), 4095);
        Checks.due("write(2, xx)", x.write(2, 0x7878L), LabelScript.NONE);
        Checks.due("write(8, xx)", x.write(8, 0x7878L), LabelScript.NONE);
        Checks.due("read() of blanks", x.read(), 0);
        Checks.due("write(9, xx)", Checks.thrownBy(() -> x.write(9, 0L)), "IllegalArgumentException");
        Checks.due("write(1, x)", x.write(1, 0x78L), 4096);
        Checks.due("write(1, x)", x.write(1, 0x78L), LabelScript.NONE);
        Checks.due("read() of blanks and x", x.read(), LabelScript.NONE);
        Checks.due("place()", x.place(), 4095);
        Checks.due("wipe()", x.wipe(), 4096);
    }

    private static void wrongNumbers() {
        LabelScript x = new LabelScript();
        int[] wrong = {0, 9, -1, 64, Integer.MIN_VALUE, Integer.MAX_VALUE};
        for (int n : wrong) {
            Checks.due("write(" + n + ", 0)", Checks.thrownBy(() -> x.write(n, 0L)), "IllegalArgumentException");
        }
        Checks.due("wipe() after wrong ones", x.wipe(), 0);
    }
}
