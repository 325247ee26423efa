/** Promise 8: kind, place, quarter, way, numbers and size of data of an order. */
public final class Promise8OrderTest {
    public static void main(String[] args) {
        kinds();
        kindsWithoutNumbers();
        textsAndHome();
        laterOnesCount();
        barsWithTheirText();
        blocks();
        turnedOver();
        wrongArguments();
        sizes();
        Checks.end();
    }

    private static void kinds() {
        Checks.dueOrders("^O1,2^T3,4,5,1^Xa^;", "0 1 2 1 0 3 4 5 [a]");
        Checks.dueOrders("^O1,2^B3,4,2,0^Xa^;", "1 1 2 2 0 3 4 0 [a]");
        Checks.dueOrders("^O1,2^N3,4,3^X123456789012^;", "2 1 2 3 0 3 4 0 [123456789012]");
        Checks.dueOrders("^O1,2^Q3,2,7,1^Xa^;", "3 1 2 1 0 3 2 7 [a]");
        Checks.dueOrders("^O1,2^F3,4,5^Xa^;", "4 1 2 0 0 3 4 5 []");
        Checks.dueOrders("^O1,2^I3,4,5^Xa^;", "5 1 2 0 0 3 4 5 []");
        Checks.dueOrders("^O1,2^G-3,-4,5^Xa^;", "6 1 2 0 0 -3 -4 5 []");
        Checks.dueOrders("^O1,2^P16^X4142^;", "7 1 2 0 0 16 0 0 [AB]");
    }

    private static void kindsWithoutNumbers() {
        Checks.dueOrders("^T^Xa^;", "0 0 0 0 0 0 1 1 [a]");
        Checks.dueOrders("^B^Xa^;", "1 0 0 0 0 2 50 0 [a]");
        Checks.dueOrders("^N^X123456789012^;", "2 0 0 0 0 2 50 0 [123456789012]");
        Checks.dueOrders("^Q^Xa^;", "3 0 0 0 0 2 1 -1 [a]");
        Checks.dueOrders("^F^;", "4 0 0 0 0 1 1 1 []");
        Checks.dueOrders("^I^;", "5 0 0 0 0 1 1 1 []");
        Checks.dueOrders("^G^;", "6 0 0 0 0 0 0 1 []");
        Checks.dueOrders("^P^X41^;", "7 0 0 0 0 8 0 0 [A]");
    }

    private static void textsAndHome() {
        Checks.dueOrders("^D1,2,3,1^T^Xa^D2,4,5,2^;^T,,7^Xb^;",
            "0 0 0 1 0 1 2 3 [a]", "0 0 0 2 0 2 4 7 [b]");
        Checks.dueOrders("^D1,2,3,1^W5^Xa^D2,4,5,2^;", "0 0 0 2 0 2 4 5 [a]");
        Checks.dueOrders("^H1,2^O10,20^F^H3,4^;^F^;^H^F^;",
            "4 13 24 0 0 1 1 1 []", "4 3 4 0 0 1 1 1 []", "4 0 0 0 0 1 1 1 []");
        Checks.dueOrders("^H4096,-4096^O-4096,4096^F^;", "4 0 0 0 0 1 1 1 []");
        Checks.dueOrders("^H4000,-4000^O96,-96^F^;", "4 4096 -4096 0 0 1 1 1 []");
    }

    private static void laterOnesCount() {
        Checks.dueOrders("^O1,2^O3^F^;", "4 3 0 0 0 1 1 1 []");
        Checks.dueOrders("^T^F2,3,4^;", "4 0 0 0 0 2 3 4 []");
        Checks.dueOrders("^B5,6,1,1^N^X123456789012^;", "2 0 0 0 0 2 50 0 [123456789012]");
        Checks.dueOrders("^N^W2^Xabc^T^;", "0 0 0 0 0 0 1 1 [abc]");
        Checks.dueOrders("^Xa^Xb^T^;", "0 0 0 0 0 0 1 1 [b]");
        Checks.dueOrdersOf("^K1,v^L9,9^Xa^V1^T^;^V1^Xb^T^;^E", "0 0 0 0 0 0 1 1 [v]", "0 0 0 0 0 0 1 1 [b]");
        Checks.dueOrdersOf("^K1,v^L9,9^T^V1^K1,w^;^T^V1^;^E", "0 0 0 0 0 0 1 1 [v]", "0 0 0 0 0 0 1 1 [w]");
        Checks.dueOrders("^T^Xa^;^R^Q^Xb", "0 0 0 0 0 0 1 1 [a]");
    }

    private static void barsWithTheirText() {
        String texts = "^D2,3,4,1^H1,1^O100,200";
        Checks.dueOrders(texts + "^B5,40,0,1^Xab^;", "1 101 201 0 0 5 40 0 [ab]", "0 101 244 0 0 2 3 4 [ab]");
        Checks.dueOrders(texts + "^B5,40,1,1^Xab^;", "1 101 201 1 0 5 40 0 [ab]", "0 58 201 1 0 2 3 4 [ab]");
        Checks.dueOrders(texts + "^B5,40,2,1^Xab^;", "1 101 201 2 0 5 40 0 [ab]", "0 101 158 2 0 2 3 4 [ab]");
        Checks.dueOrders(texts + "^B5,40,3,1^Xab^;", "1 101 201 3 0 5 40 0 [ab]", "0 144 201 3 0 2 3 4 [ab]");
        Checks.dueOrders("^B,,,1^Xab^D3^;", "1 0 0 0 0 2 50 0 [ab]", "0 0 53 0 0 3 1 1 [ab]");
    }

    private static void blocks() {
        Checks.dueOrders("^O100,200^W6,10,0,7^Xabc_0Ad^;", "0 100 200 0 0 0 1 1 [abc]", "0 100 210 0 0 0 1 1 [d]");
        Checks.dueOrders("^O100,200^W6,10,1,7^Xabc_0Ad^;", "0 121 200 0 0 0 1 1 [abc]", "0 135 210 0 0 0 1 1 [d]");
        Checks.dueOrders("^O100,200^W6,10,2,7^Xabc_0Ad^;", "0 107 200 0 0 0 1 1 [abc]", "0 114 210 0 0 0 1 1 [d]");
        Checks.dueOrders("^D,,,1^O100,200^W6,10,1,7^Xabc_0Ad^;",
            "0 100 221 1 0 0 1 1 [abc]", "0 90 235 1 0 0 1 1 [d]");
        Checks.dueOrders("^D,,,2^O100,200^W6,10,1,7^Xabc_0Ad^;",
            "0 79 200 2 0 0 1 1 [abc]", "0 65 190 2 0 0 1 1 [d]");
        Checks.dueOrders("^D,,,3^O100,200^W6,10,1,7^Xabc_0Ad^;",
            "0 100 179 3 0 0 1 1 [abc]", "0 110 165 3 0 0 1 1 [d]");
        Checks.dueOrders("^W6,,1,7^Xabc_0Ad^;", "0 21 0 0 0 0 1 1 [abc]", "0 35 0 0 0 0 1 1 [d]");
        Checks.dueOrders("^W6,10,,7^Xabc_0Ad^;", "0 0 0 0 0 0 1 1 [abc]", "0 0 10 0 0 0 1 1 [d]");
        Checks.dueOrders("^W6,10,1^Xabc_0Ad^;", "0 0 0 0 0 0 1 1 [abc]", "0 0 10 0 0 0 1 1 [d]");
        Checks.dueOrders("^W6,10,1,7^X_0A^;", "0 42 0 0 0 0 1 1 []", "0 42 10 0 0 0 1 1 []");
    }

    private static void turnedOver() {
        Checks.dueOrders("^R^F^;^F^R^R^;^F^;",
            "4 0 0 0 2 1 1 1 []", "4 0 0 0 2 1 1 1 []", "4 0 0 0 0 1 1 1 []");
        Checks.dueOrders("^R^B,,,1^Xa^;", "1 0 0 0 2 2 50 0 [a]", "0 0 53 0 2 0 1 1 [a]");
        Checks.dueOrders("^R^W1,1^Xab^;", "0 0 0 0 2 0 1 1 [a]", "0 0 1 0 2 0 1 1 [b]");
    }

    private static void wrongArguments() {
        LabelScript x = Checks.reading("^L9,9^F^;^E");
        for (int k : new int[] {1, 119, 120, 121, -1, Integer.MIN_VALUE, Integer.MAX_VALUE}) {
            for (int what = 0; what <= 8; what++) {
                int w = what;
                Checks.due("order(" + k + ", " + w + ")", Checks.thrownBy(() -> x.order(k, w)),
                    "IndexOutOfBoundsException");
            }
        }
        for (int what : new int[] {-1, 9, 13, 14, Integer.MIN_VALUE, Integer.MAX_VALUE}) {
            Checks.due("order(0, " + what + ")", Checks.thrownBy(() -> x.order(0, what)), "IllegalArgumentException");
            Checks.due("order(1, " + what + ")", Checks.thrownBy(() -> x.order(1, what)), "IllegalArgumentException");
        }
        Checks.due("what was read stays", Checks.shown(x, 0), "4 0 0 0 0 1 1 1 []");
    }

    private static void sizes() {
        LabelScript x = Checks.reading("^L9,9^T^X" + "_41".repeat(200) + "^;^P^X" + "41".repeat(100) + "^;^F^Xab^;^E");
        Checks.due("order(0, 8)", x.order(0, 8), 200);
        Checks.due("order(1, 8)", x.order(1, 8), 100);
        Checks.due("order(2, 8)", x.order(2, 8), 0);
    }
}
