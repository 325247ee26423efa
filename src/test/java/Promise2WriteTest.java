/** Promise 2: the n lowest bytes of a long, the lowest first, come behind the text. */
public final class Promise2WriteTest {
    private static final String PROMISE = "Promise 2";
    private static final long BLANKS = 0x2020202020202020L;

    public static void main(String[] args) {
        theLowestBytes();
        howManyItHasThen();
        noMoreThan4096();
        wrongNumbers();
        whatWasReadStays();
        Checks.end();
    }

    private static void theLowestBytes() {
        Checks.sentence(PROMISE, "The n lowest bytes of a long, the lowest first, come behind the text.");
        for (int n = 1; n <= 8; n++) {
            LabelScript x = new LabelScript();
            Checks.add(x, "^L9,9^T^X");
            x.write(n, 0x8807060504030281L);
            Checks.add(x, "^;^E");
            Checks.due("read() with write(" + n + ", ..)", x.read(), 1);
            Checks.due("how many of the long", x.order(0, 8), n);
            Checks.due("these", x.data(0, 0), n == 8 ? 0x8807060504030281L : 0x8807060504030281L & (1L << 8 * n) - 1);
        }
        LabelScript x = new LabelScript();
        // "^L9,9^T^" and then "X", of whose long the seven higher bytes must stay out.
        x.write(8, 0x5E545E392C394C5EL);
        x.write(1, 0x5A5A5A5A5A5A5A58L);
        Checks.add(x, "\u0000\u0080\u00ff\u007f^;^E");
        Checks.due("read()", x.read(), 1);
        Checks.due("bytes 0, 128, 255 and 127", Checks.dataOf(x, 0), "\u0000\u0080\u00ff\u007f");
    }

    private static void howManyItHasThen() {
        Checks.sentence(PROMISE, "Answers how many it has then");
        LabelScript x = new LabelScript();
        int size = 0;
        for (int n = 1; n <= 8; n++) {
            size += n;
            Checks.due("write(" + n + ", -1)", x.write(n, -1L), size);
        }
        Checks.due("wipe()", x.wipe(), 36);
        Checks.due("write(2, 0) after wipe()", x.write(2, 0L), 2);
    }

    /** An object that has had 511 calls: the last one that is promised can just fill its text. */
    private static LabelScript almostFull() {
        LabelScript x = new LabelScript();
        for (int i = 0; i < 511; i++) {
            x.write(8, BLANKS);
        }
        return x;
    }

    /*
     * An object is promised for 512 calls, and these cannot write more than 4096 bytes; so what a full text refuses
     * is seen only behind them, where any answer would do. It is tested as it is promised all the same.
     */
    private static void noMoreThan4096() {
        Checks.sentence(PROMISE, "NONE when there would be more than 4096");
        Checks.due("write(8, ..) to 4096, the last call promised", almostFull().write(8, BLANKS), 4096);
        for (int n = 1; n <= 8; n++) {
            LabelScript x = almostFull();
            Checks.due("write(" + (9 - n) + ", blanks)", x.write(9 - n, BLANKS), 4097 - n);
            Checks.due("write(" + n + ", x) to 4097", x.write(n, 0x7878787878787878L), LabelScript.NONE);
            Checks.due("write(8, x) then", x.write(8, 0x7878787878787878L), LabelScript.NONE);
            Checks.due("read() of the blanks alone", x.read(), 0);
            if (n > 1) {
                Checks.due("write(" + (n - 1) + ", x) to 4096", x.write(n - 1, 0x7878787878787878L), 4096);
                Checks.due("read() of blanks and x", x.read(), LabelScript.NONE);
                Checks.due("place()", x.place(), 4097 - n);
            }
            Checks.due("write(1, x) to 4097", x.write(1, 0x78L), LabelScript.NONE);
            Checks.due("wipe()", x.wipe(), 4096);
            Checks.due("write(8, ..) after wipe()", x.write(8, BLANKS), 8);
        }
    }

    private static void wrongNumbers() {
        Checks.sentence(PROMISE, "IllegalArgumentException: n is not 1 .. 8.");
        for (int n : new int[] {0, 9, -1, -8, 64, Integer.MIN_VALUE, Integer.MAX_VALUE}) {
            String call = "write(" + n + ", ..)";
            Checks.dueThrown(call, () -> new LabelScript().write(n, -1L), "IllegalArgumentException");
            Checks.dueUnchanged(call, () -> Checks.reading("^L9,9^F^;^E"), x -> Checks.thrownBy(() -> x.write(n, -1L)));
        }
        LabelScript full = almostFull();
        full.write(8, BLANKS);
        Checks.dueThrown("write(9, ..) of a full text", () -> full.write(9, 0L), "IllegalArgumentException");
        Checks.dueThrown("write(0, ..) of a full text", () -> full.write(0, 0L), "IllegalArgumentException");
        Checks.due("wipe()", full.wipe(), 4096);
    }

    private static void whatWasReadStays() {
        Checks.sentence(PROMISE, "come behind the text");
        LabelScript x = Checks.reading(Checks.storeAll() + "^L9,9^F^;^E");
        String before = Checks.seen(x);
        x.write(1, 'x');
        Checks.due("what was read, after write", Checks.seen(x), before);
        Checks.due("read() then", x.read(), LabelScript.NONE);
        Checks.due("place()", x.place(), x.wipe() - 1);
    }
}
