/** Terms, the paragraph on bars with their text, blocks and LINES, and the one on pictures. */
public final class TermsLinesTest {
    private static final String BARS = "Terms, Bars with their text";
    private static final String LINES = "Terms, LINES";
    private static final String PICTURE = "Terms, Of a picture";

    public static void main(String[] args) {
        barsWithTheirText();
        whereALineStands();
        cutAtEachByte10();
        noLongerThanN();
        theLastBlank();
        withoutABlank();
        linesOfOneByte();
        pictures();
        Checks.end();
    }

    private static void barsWithTheirText() {
        Checks.sentence(BARS, "Bars with their text have a second order, a text as texts are where the field ends, "
            + "but with r of the bars, by the steps (0, h + 3).");
        String texts = "^D2,3,4,1^H1,1^O100,200";
        Checks.dueOrders(texts + "^B5,40,0,1^Xab^;", "1 101 201 0 0 5 40 0 [ab]", "0 101 244 0 0 2 3 4 [ab]");
        Checks.dueOrders(texts + "^B5,40,1,1^Xab^;", "1 101 201 1 0 5 40 0 [ab]", "0 58 201 1 0 2 3 4 [ab]");
        Checks.dueOrders(texts + "^B5,40,2,1^Xab^;", "1 101 201 2 0 5 40 0 [ab]", "0 101 158 2 0 2 3 4 [ab]");
        Checks.dueOrders(texts + "^B5,40,3,1^Xab^;", "1 101 201 3 0 5 40 0 [ab]", "0 144 201 3 0 2 3 4 [ab]");
        Checks.dueOrders("^B,,,1^Xab^D3,2,2,2^;", "1 0 0 0 0 2 50 0 [ab]", "0 0 53 0 0 3 2 2 [ab]");
        Checks.dueOrders("^B,1,,1^Xab^;^B,2048,,1^Xab^;", "1 0 0 0 0 2 1 0 [ab]", "0 0 4 0 0 0 1 1 [ab]",
            "1 0 0 0 0 2 2048 0 [ab]", "0 0 2051 0 0 0 1 1 [ab]");
        Checks.dueOrders("^B,,,0^Xab^;", "1 0 0 0 0 2 50 0 [ab]");
        Checks.dueData("^L9,9^B,,,1^X" + "a".repeat(200) + "^;^E", "a".repeat(200), "a".repeat(200));
    }

    private static void whereALineStands() {
        Checks.sentence("Terms, A block", "line k (from 0) by the steps (s, k l), s being, for a = 0, 1, 2, 0, u (n - d)"
            + ", or u times (half of n - d, rounded down), for d bytes in it");
        Checks.dueOrders("^O100,200^W6,10,0,7^Xabc_0Ad^;", "0 100 200 0 0 0 1 1 [abc]", "0 100 210 0 0 0 1 1 [d]");
        Checks.dueOrders("^O100,200^W6,10,1,7^Xabc_0Ad^;", "0 121 200 0 0 0 1 1 [abc]", "0 135 210 0 0 0 1 1 [d]");
        Checks.dueOrders("^O100,200^W6,10,2,7^Xabc_0Ad^;", "0 107 200 0 0 0 1 1 [abc]", "0 114 210 0 0 0 1 1 [d]");
        Checks.dueOrders("^W6,10,1,7^X_0Aabcdef^;", "0 42 0 0 0 0 1 1 []", "0 0 10 0 0 0 1 1 [abcdef]");
        Checks.dueOrders("^W6,10,2,7^X_0Aabcde_0Aabcd^;", "0 21 0 0 0 0 1 1 []", "0 0 10 0 0 0 1 1 [abcde]",
            "0 7 20 0 0 0 1 1 [abcd]");
        Checks.dueOrders("^W7,10,2,7^X_0Aabcdef^;", "0 21 0 0 0 0 1 1 []", "0 0 10 0 0 0 1 1 [abcdef]");
    }

    /** The lines of a block of at most so many cells. */
    private static void dueLines(int n, String data, String... lines) {
        Checks.dueData("^L9,9^W" + n + "^X" + data + "^;^E", lines);
    }

    private static void cutAtEachByte10() {
        Checks.sentence(LINES, "the data is cut at each byte 10 (left out)");
        dueLines(5, "ab_0Acd", "ab", "cd");
        dueLines(5, "ab\ncd", "ab", "cd");
        dueLines(5, "_0A", "", "");
        dueLines(5, "_0Aab", "", "ab");
        dueLines(5, "ab_0A", "ab", "");
        dueLines(5, "ab_0A_0Acd_0A", "ab", "", "cd", "");
        dueLines(5, "a_09b_0Bc_0Dd", "a\tb\u000bc", "\rd");
        dueLines(5, "abcde_0Af", "abcde", "f");
        dueLines(5, "abcdef_0Ag", "abcde", "f", "g");
    }

    private static void noLongerThanN() {
        Checks.sentence(LINES, "each piece that is no longer than n is a line, also an empty one");
        dueLines(5, "abcd", "abcd");
        dueLines(5, "abcde", "abcde");
        dueLines(5, "a b c", "a b c");
        dueLines(5, "    ", "    ");
        dueLines(5, "abc  ", "abc  ");
        dueLines(5, "     ", "     ");
        dueLines(99, "a ".repeat(49) + "a", "a ".repeat(49) + "a");
        dueLines(5, "ab cd_0A_0Aab cd", "ab cd", "", "ab cd");
    }

    private static void theLastBlank() {
        Checks.sentence(LINES, "of a longer one the line is what stands before the last blank (32) among its first "
            + "n + 1 bytes, and the piece goes on behind this blank");
        dueLines(5, "abcde fg", "abcde", "fg");
        dueLines(5, "abcd efg", "abcd", "efg");
        dueLines(5, "abcdef g", "abcde", "f g");
        dueLines(5, "ab cd ef", "ab cd", "ef");
        dueLines(5, "a b cdefgh", "a b", "cdefg", "h");
        dueLines(5, "ab cdefgh", "ab", "cdefg", "h");
        dueLines(5, " abcdefg", "", "abcde", "fg");
        dueLines(5, "abcde ", "abcde", "");
        dueLines(5, "abcde  ", "abcde", " ");
        dueLines(5, "      ", "     ", "");
        dueLines(5, "       ", "     ", " ");
        dueLines(5, "abcde _0Af", "abcde", "", "f");
        dueLines(5, "a_09bcdefg", "a\tbcd", "efg");
        dueLines(5, "a_1Fbc_21efg", "a\u001fbc!", "efg");
        dueLines(99, "a".repeat(99) + " b", "a".repeat(99), "b");
        dueLines(99, "a".repeat(98) + " b", "a".repeat(98), "b");
        dueLines(99, "a".repeat(100) + " b", "a".repeat(99), "a b");
    }

    private static void withoutABlank() {
        Checks.sentence(LINES, "without such a blank the line is its first n bytes, and it goes on there");
        dueLines(5, "abcdef", "abcde", "f");
        dueLines(5, "abcdefghij", "abcde", "fghij");
        dueLines(5, "abcdefghijk", "abcde", "fghij", "k");
        dueLines(5, "abcdefg_0Ah i jklm", "abcde", "fg", "h i", "jklm");
        dueLines(99, "a".repeat(199), "a".repeat(99), "a".repeat(99), "a");
        dueLines(10, "a".repeat(200), "a".repeat(10), "a".repeat(10), "a".repeat(10), "a".repeat(10), "a".repeat(10),
            "a".repeat(10), "a".repeat(10), "a".repeat(10), "a".repeat(10), "a".repeat(10), "a".repeat(10),
            "a".repeat(10), "a".repeat(10), "a".repeat(10), "a".repeat(10), "a".repeat(10), "a".repeat(10),
            "a".repeat(10), "a".repeat(10), "a".repeat(10));
    }

    private static void linesOfOneByte() {
        Checks.sentence(LINES, "of at most n cells a line, 1 .. 99");
        dueLines(1, "a", "a");
        dueLines(1, "ab", "a", "b");
        dueLines(1, "a b", "a", "b");
        dueLines(1, " ", " ");
        dueLines(1, "  ", " ", "");
        dueLines(1, " a", "", "a");
        dueLines(1, "_0A", "", "");
    }

    private static void pictures() {
        Checks.sentence(PICTURE, "Of a picture the data are hexadecimal digits, two for each byte of the order's.");
        Checks.dueData("^L9,9^P16^X00fFAb09^;^E", "\u0000\u00ff\u00ab\u0009");
        Checks.dueData("^L9,9^P^X_34_31^;^E", "A");
        Checks.dueData("^K1,4142^L9,9^P^V1^;^E", "AB");
        Checks.dueData("^L9,9^P^X" + "fE".repeat(100) + "^;^E", "\u00fe".repeat(100));
        LabelScript x = Checks.reading("^L9,9^P^X4142434445464748495a^;^E");
        Checks.due("data(0, 0)", x.data(0, 0), 0x4847464544434241L);
        Checks.due("data(0, 3)", x.data(0, 3), 0x005A494847464544L);
        Checks.due("data(0, 9)", x.data(0, 9), 0x5AL);
        Checks.due("data(0, 10)", x.data(0, 10), 0);
        Checks.due("data(0, -1)", x.data(0, -1), 0x4746454443424100L);
    }
}
