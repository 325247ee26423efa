import java.io.IOException;
import java.nio.charset.StandardCharsets;
import java.nio.file.Files;
import java.nio.file.Path;
import java.util.ArrayList;
import java.util.List;

/** The calls that README.md shows answer as it says; its blocks of Java are lines of this file. */
public final class ReadmeTest {
    private static final int BLOCKS = 6;

    public static void main(String[] args) throws IOException {
        Checks.sentence("README.md, Use", "A label and its orders");
        aLabelAndItsOrders();
        Checks.sentence("README.md, Use", "What is wrong, and where");
        whatIsWrong();
        Checks.sentence("README.md, Use", "Forms, variables and copies");
        formsVariablesAndCopies();
        Checks.sentence("README.md, Use", "Several orders of one field");
        severalOrders();
        Checks.sentence("README.md, Use", "Calls that are refused");
        refusedCalls();
        Checks.sentence("README.md", "every block of Java stands in src/test/java/ReadmeTest.java");
        theReadmeShowsTheseLines();
        Checks.end();
    }

    static void put(LabelScript script, String text) {
        byte[] bytes = text.getBytes(StandardCharsets.ISO_8859_1);
        for (int from = 0; from < bytes.length; from += 8) {
            int n = Math.min(8, bytes.length - from);
            long packed = 0;
            for (int i = 0; i < n; i++) {
                packed |= (bytes[from + i] & 255L) << (8 * i);
            }
            script.write(n, packed);
        }
    }

    private static void aLabelAndItsOrders() {
        LabelScript script = new LabelScript();
        put(script, "^L100,50 ^O10,20 ^T1,2,3 ^XHello^; ^R^F100,50,4^; ^E");
        answers(script.read(), 1);                     // one label came of the text
        answers(script.fault(), 0);                    // nothing is wrong
        answers(script.place(), LabelScript.NONE);
        answers(script.label(0, 0), 100);              // its width
        answers(script.label(0, 1), 50);               // its height
        answers(script.label(0, 2), 0);                // the number of its first order
        answers(script.label(0, 3), 2);                // how many orders it has
        answers(script.order(0, 0), 0);                // kind: 0, a text
        answers(script.order(0, 1), 10);               // x
        answers(script.order(0, 2), 20);               // y
        answers(script.order(0, 3), 0);                // quarter
        answers(script.order(0, 4), 0);                // way: not turned over
        answers(script.order(0, 5), 1);                // a: the font of a text
        answers(script.order(0, 6), 2);                // b, c: its scales
        answers(script.order(0, 7), 3);
        answers(script.order(0, 8), 5);                // how many bytes its data has
        answers(script.data(0, 0), 0x6F6C6C6548L);     // "Hello", the first byte as the lowest
        answers(script.data(0, 4), 0x6F);              // "o", and nothing behind it
        answers(script.order(1, 0), 4);                // kind: 4, a frame
        answers(script.order(1, 4), 2);                // way: turned over
    }

    private static void whatIsWrong() {
        LabelScript script = new LabelScript();
        put(script, "^L100,50^O10,20^T^;^E");
        answers(script.read(), LabelScript.NONE);
        answers(script.fault(), 8);                    // a field that cannot be: a text without data
        answers(script.place(), 17);                   // the ^ of the ; that ends it
        answers(script.label(0, 0), LabelScript.NONE); // there are no labels then
        answers(script.wipe(), 21);                    // so many bytes the text had
        put(script, "^L100,50^O10,20^T^XHello^;^E");
        answers(script.read(), 1);
        answers(script.fault(), 0);
    }

    private static void formsVariablesAndCopies() {
        LabelScript script = new LabelScript();
        put(script, "^K2,No 09^S1^O5,6 ^T ^V2 ^#1 ^;^Z");
        answers(script.read(), 0);                     // a variable and a form are stored, and no label made
        answers(script.wipe(), 33);                    // they stay when the text goes
        put(script, "^L80,40 ^C3 ^U1 ^E");
        answers(script.read(), 3);                     // three copies
        answers(script.label(2, 2), 2);                // the last one has order 2
        answers(script.label(2, 3), 1);
        answers(script.data(0, 0), 0x3930206F4EL);     // "No 09"
        answers(script.data(1, 0), 0x3031206F4EL);     // "No 10"
        answers(script.data(2, 0), 0x3131206F4EL);     // "No 11"
    }

    private static void severalOrders() {
        LabelScript script = new LabelScript();
        put(script, "^L200,90 ^O5,6^W5,12^XHello big world^; ^B2,40,0,1^X123^; ^E");
        answers(script.read(), 1);
        answers(script.label(0, 3), 5);                // three lines, bars, and their text
        answers(script.order(0, 2), 6);
        answers(script.order(1, 2), 18);               // the second line is twelve dots further
        answers(script.data(1, 0), 0x676962);          // "big"
        answers(script.order(3, 0), 1);                // kind: 1, bars
        answers(script.order(4, 0), 0);                // kind: 0, their text
        answers(script.order(4, 2), 43);               // below them
    }

    private static void refusedCalls() {
        LabelScript script = new LabelScript();
        throwsOut("IllegalArgumentException", () -> script.write(9, 0));
        throwsOut("IllegalArgumentException", () -> script.label(0, 4));
        throwsOut("IllegalArgumentException", () -> script.order(0, 9));
        throwsOut("IndexOutOfBoundsException", () -> script.order(0, 8));
        throwsOut("IndexOutOfBoundsException", () -> script.data(0, 0));
    }

    private static void answers(long got, long want) {
        Checks.due("the call in line " + lineOfCaller(), got, want);
    }

    private static void throwsOut(String name, Runnable call) {
        Checks.dueThrown("the call in line " + lineOfCaller(), call, name);
    }

    /** The line of this file that called the method that asks. */
    private static int lineOfCaller() {
        return new Throwable().getStackTrace()[2].getLineNumber();
    }

    private static void theReadmeShowsTheseLines() throws IOException {
        String own = stripped(Files.readAllLines(Path.of("src", "test", "java", "ReadmeTest.java")));
        List<String> blocks = javaBlocks(Files.readAllLines(Path.of("README.md")));
        Checks.due("how many blocks of Java README.md has", blocks.size(), BLOCKS);
        for (String block : blocks) {
            String found = own.contains(block) ? block : "no such lines";
            Checks.due("looking in ReadmeTest.java for a block of README.md", found, block);
        }
    }

    private static List<String> javaBlocks(List<String> lines) {
        List<String> blocks = new ArrayList<>();
        List<String> block = null;
        for (String line : lines) {
            if (line.equals("```java")) {
                block = new ArrayList<>();
            } else if (line.equals("```") && block != null) {
                blocks.add(stripped(block));
                block = null;
            } else if (block != null) {
                block.add(line);
            }
        }
        return blocks;
    }

    /** The lines, each without the blanks around it and with a newline before and behind. */
    private static String stripped(List<String> lines) {
        StringBuilder all = new StringBuilder("\n");
        for (String line : lines) {
            all.append(line.strip()).append('\n');
        }
        return all.toString();
    }
}
