/** Terms, the paragraph ORDERS: their kinds, places, quarters, ways, numbers and data; and steps. */
public final class TermsOrdersTest {
    private static final String TERMS = "Terms, ORDERS";

    public static void main(String[] args) {
        kindsAndNumbers();
        homeAndOriginTogether();
        aQuarter();
        aWay();
        noData();
        steps();
        Checks.end();
    }

    private static void kindsAndNumbers() {
        Checks.sentence(TERMS, "NUMBERS a, b, c: f, p, q; m, h; m, h; m, l, k; w, h, t; w, h, t; x, y, t; w "
            + "(0 for what there is not)");
        Checks.dueOrders("^O1,2^T3,4,5,1^Xa^;", "0 1 2 1 0 3 4 5 [a]");
        Checks.dueOrders("^O1,2^B3,4,2,0^Xa^;", "1 1 2 2 0 3 4 0 [a]");
        Checks.dueOrders("^O1,2^N3,4,3^X123456789012^;", "2 1 2 3 0 3 4 0 [123456789012]");
        Checks.dueOrders("^O1,2^Q3,2,7,1^Xa^;", "3 1 2 1 0 3 2 7 [a]");
        Checks.dueOrders("^O1,2^F3,4,5^Xa^;", "4 1 2 0 0 3 4 5 []");
        Checks.dueOrders("^O1,2^I3,4,5^Xa^;", "5 1 2 0 0 3 4 5 []");
        Checks.dueOrders("^O1,2^G-3,-4,5^Xa^;", "6 1 2 0 0 -3 -4 5 []");
        Checks.dueOrders("^O1,2^P16^X4142^;", "7 1 2 0 0 16 0 0 [AB]");
        Checks.dueOrders("^Q3,2,7,1^Xa^;^B^Xa^;^P^X41^;", "3 0 0 1 0 3 2 7 [a]", "1 0 0 0 0 2 50 0 [a]",
            "7 0 0 0 0 8 0 0 [A]");
    }

    private static void homeAndOriginTogether() {
        Checks.sentence(TERMS, "a place, home (as it is where the field ends) and origin together");
        Checks.dueOrders("^H1,2^O10,20^F^H3,4^;^F^;^H^F^;", "4 13 24 0 0 1 1 1 []", "4 3 4 0 0 1 1 1 []",
            "4 0 0 0 0 1 1 1 []");
        Checks.dueOrders("^H4096,-4096^O-4096,4096^F^;", "4 0 0 0 0 1 1 1 []");
        Checks.dueOrders("^H4000,-4000^O96,-96^F^;", "4 4096 -4096 0 0 1 1 1 []");
        Checks.inLabel("^H4000^O97^F^;", 8);
        Checks.inLabel("^H,-4000^O,-97^F^;", 8);
        Checks.inLabel("^H4000^O97^F^H3999^;", 0);
    }

    private static void aQuarter() {
        Checks.sentence(TERMS, "a quarter r (0 for kinds 4 to 7)");
        String[] want = {"4 0 0 0 0 1 1 1 []", "5 0 0 0 0 1 1 1 []", "6 0 0 0 0 0 0 1 []", "7 0 0 0 0 8 0 0 [A]"};
        Checks.dueOrders("^D,,,3^F^;^I^;^G^;^P^X41^;", want);
        Checks.dueOrders("^D,,,3^T^Xa^;^B^Xa^;^Q^Xa^;", "0 0 0 3 0 0 1 1 [a]", "1 0 0 0 0 2 50 0 [a]",
            "3 0 0 0 0 2 1 -1 [a]");
    }

    private static void aWay() {
        Checks.sentence(TERMS, "a WAY, 2 if the field is turned over, else 0");
        String[] kinds = {"^T", "^B", "^N", "^Q", "^F", "^I", "^G", "^P"};
        for (int kind = 0; kind < kinds.length; kind++) {
            LabelScript x = Checks.reading("^L9,9" + kinds[kind] + "^X123456789012^R^;" + kinds[kind]
                + "^X123456789012^;^E");
            Checks.due("kind of " + kinds[kind], x.order(0, 0), kind);
            Checks.due("way of " + kinds[kind] + " turned over", x.order(0, 4), 2);
            Checks.due("way of the next", x.order(1, 4), 0);
        }
        Checks.dueOrders("^R^B,,,1^Xa^;", "1 0 0 0 2 2 50 0 [a]", "0 0 53 0 2 0 1 1 [a]");
        Checks.dueOrders("^R^W1,1^Xab^;", "0 0 0 0 2 0 1 1 [a]", "0 0 1 0 2 0 1 1 [b]");
    }

    private static void noData() {
        Checks.sentence(TERMS, "DATA (none for 4 to 6)");
        Checks.dueData("^L9,9^F^Xa^;^I^Xa^;^G^Xa^;^T^Xa^;^B^Xa^;^Q^Xa^;^E", "", "", "", "a", "a", "a");
        Checks.dueData("^L9,9^C2^#1^F^X1^;^E", "", "");
        for (String kind : new String[] {"^F", "^I", "^G"}) {
            LabelScript x = Checks.reading("^L9,9^Xabc" + kind + "^;" + kind + "^;^E");
            Checks.due("how many bytes " + kind + " has", x.order(0, 8), 0);
            Checks.due("data(0, 0) of " + kind, x.data(0, 0), 0);
            Checks.due("how many bytes it has without X", x.order(1, 8), 0);
        }
    }

    private static void steps() {
        Checks.sentence(TERMS, "STEPS (i, j) from a place by r: (x + i, y + j), (x - j, y + i), (x - i, y - j), "
            + "(x + j, y - i)");
        String block = "^O100,200^W6,10,1,7^Xabc_0Ad^;";
        Checks.dueOrders("^D,,,0" + block, "0 121 200 0 0 0 1 1 [abc]", "0 135 210 0 0 0 1 1 [d]");
        Checks.dueOrders("^D,,,1" + block, "0 100 221 1 0 0 1 1 [abc]", "0 90 235 1 0 0 1 1 [d]");
        Checks.dueOrders("^D,,,2" + block, "0 79 200 2 0 0 1 1 [abc]", "0 65 190 2 0 0 1 1 [d]");
        Checks.dueOrders("^D,,,3" + block, "0 100 179 3 0 0 1 1 [abc]", "0 110 165 3 0 0 1 1 [d]");
    }
}
