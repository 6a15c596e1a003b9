import java.util.Arrays;

/** The sentences of the document about passes, segments and reaches that name a boundary case. */
public final class PassEdgeTest extends Sentences {
    private static final String PASSES = "promise 5, Terms, passes";
    private static final String SEGMENTS = "promises 5 and 7, Terms, segments";

    private static void numbers() {
        sentence("promises 5 to 7, Terms, passes",
            "The highest plane has pass 2 alone, each other plane the passes 0, 1 and 2 in this order");
        for (int planes = 1; planes <= 31; planes++) {
            PlaneBlocks x = single(0, 1 << (planes - 1));
            due("pass 0 of " + planes + " planes", x.pass(0, 0), 2);
            due("plane of pass 0 of " + planes, x.pass(0, 1), planes - 1);
            for (int plane = planes - 2; plane >= 0; plane--) {
                for (int kind = 0; kind < 3; kind++) {
                    int k = 3 * (planes - 2 - plane) + 1 + kind;
                    due("pass " + k + " of " + planes + " planes", x.pass(k, 0), kind);
                    due("plane of pass " + k + " of " + planes, x.pass(k, 1), plane);
                }
            }
        }
        sentence("promises 5 and 6, Terms, passes", "there are 3 * planes - 2 of them (none without planes)");
        due("passes without planes", block(1, 1, 0, 0).write(), 0);
        for (int planes = 1; planes <= 31; planes++) {
            PlaneBlocks x = block(1, 1, 0, planes, 1 << (planes - 1));
            due("passes of " + planes + " planes", x.write(), 3 * planes - 2);
            due("written(1) of " + planes + " planes", x.written(1), 3 * planes - 2);
            int none = 3 * planes - 2;
            refuses(INDEX, "pass(" + none + ", 0) of " + planes + " planes", () -> x.pass(none, 0));
        }
    }

    private static void whichAreWritten() {
        sentence(PASSES, "Pass 0 (for each that is not significant and whose zero context is not 0)");
        bytes("beside one, and beside that", written(3, 1, 0, 0, 2, 1, 0),
            coded(0, "0:1 9:0 5:0 0:0", "5:1 12:0 5:0", "15:0"));
        bytes("nobody around", written(3, 1, 0, 0, 2, 0, 1), coded(0, "0:1 9:0 5:0 0:0", "5:0", "14:0", "0:1 9:0"));
        bytes("all are significant", written(2, 1, 0, 0, 2, 2), coded(0, "0:1 9:0 5:1 12:0", "15:0 15:0"));
        sentence(PASSES, "Pass 1 (for each that is significant and was not written by pass 0 of this plane)");
        bytes("significant by pass 0 of the plane above", written(3, 1, 0, 0, 4, 2, 0),
            coded(0, "0:1 9:0 5:0 0:0", "5:1 12:0 5:0", "15:0", "5:0", "16:0 15:0"));
        bytes("significant by pass 2 of the plane above", written(3, 1, 0, 0, 4, 0, 3),
            coded(0, "0:1 9:0 5:0 0:0", "5:0", "14:0", "0:1 9:0", "8:0", "16:0 14:1"));
        sentence(PASSES, "Pass 2 (for each that is not significant and was not written by pass 0 of this plane)");
        bytes("written by pass 0 of this plane", written(3, 1, 0, 0, 2, 0, 0), coded(0, "0:1 9:0 5:0 0:0", "5:0", "14:0", "0:0"));
        bytes("written by pass 0 of the plane above, and of this one", written(2, 1, 0, 0, 4, 0),
            coded(0, "0:1 9:0 5:0", "5:0", "14:0", "5:0", "16:0"));
        bytes("the highest plane", written(3, 1, 0, 0, 1, 1, 0), coded(0, "0:1 9:0 5:1 12:0 5:0"));
    }

    private static void runs() {
        sentence(PASSES, "But where a column of a stripe has four coefficients");
        bytes("three", dotted(1, 3, 0, 0, 0, 1), coded(0, "0:1 9:0 3:0 0:0"));
        bytes("four", dotted(1, 4, 0, 0, 0, 1), coded(0, "17:1 18:0 18:0 9:0 3:0 0:0 0:0"));
        bytes("five", dotted(1, 5, 0, 0, 0, 1), coded(0, "17:1 18:0 18:0 9:0 3:0 0:0 0:0 0:0"));
        sentence(PASSES, "none of which is significant, none was written by pass 0 of this plane, and all have zero context 0");
        bytes("the first of them has another context", dotted(2, 4, 0, 0, 0, 1),
            coded(0, "17:1 18:0 18:0 9:0 3:0 0:0 0:0", "5:0 1:0 0:0 0:0"));
        bytes("the last of them has another context", dotted(2, 4, 0, 0, 3, 1),
            coded(0, "17:1 18:1 18:1 9:0", "0:0 0:0 1:0 5:0"));
        bytes("the last of the stripe above is significant", dotted(1, 8, 0, 0, 3, 1),
            coded(0, "17:1 18:1 18:1 9:0", "3:0 0:0 0:0 0:0"));
        bytes("a significant one, and those written by pass 0", dotted(1, 4, 0, 0, 0, 2),
            coded(0, "17:1 18:0 18:0 9:0 3:0 0:0 0:0", "3:0", "14:0", "0:0 0:0"));
        bytes("a column further on all have 0", dotted(3, 4, 0, 0, 0, 2),
            coded(0, "17:1 18:0 18:0 9:0 3:0 0:0 0:0 5:0 1:0 0:0 0:0 17:0", "3:0 5:0 1:0", "14:0", "0:0 0:0 0:0 0:0 17:0"));
        sentence(PASSES, "a bit is written in the context run: 0 if all their bits are 0, and that is all");
        bytes("nothing in the first of two columns", dotted(2, 4, 0, 1, 0, 1), coded(0, "17:0 17:1 18:0 18:0 9:0 3:0 0:0 0:0"));
        sentence(PASSES, "the two bits of how many of them are 0 ahead of the first one that is 1, the higher one first");
        bytes("0 ahead", dotted(1, 4, 0, 0, 0, -1), coded(0, "17:1 18:0 18:0 9:1 3:0 0:0 0:0"));
        bytes("1 ahead", dotted(1, 4, 0, 0, 1, -1), coded(0, "17:1 18:0 18:1 9:1 3:0 0:0"));
        bytes("2 ahead", dotted(1, 4, 0, 0, 2, -1), coded(0, "17:1 18:1 18:0 9:1 3:0"));
        bytes("3 ahead", dotted(1, 4, 0, 0, 3, -1), coded(0, "17:1 18:1 18:1 9:1"));
        sentence(PASSES, "that one is significant, its sign is written, and those behind it are gone on with one by one");
        bytes("all four", dotted(1, 4, 0, 0, 0, -1, 0, 1, 1, 0, 2, 1, 0, 3, 1),
            coded(0, "17:1 18:0 18:0 9:1 3:1 10:1 3:1 10:0 3:1 10:0"));
        bytes("one behind it", dotted(1, 4, 0, 0, 2, 1, 0, 3, -1), coded(0, "17:1 18:1 18:0 9:0 3:1 10:1"));
        for (int first = 0; first < 4; first++) {
            PlaneBlocks x = readWholly(dotted(2, 4, 0, 0, first, -1, 1, 3, 1));
            due("read with " + first + " ahead", x.value(0, first), -1);
            due("and in the other column", x.value(1, 3), 1);
        }
    }

    private static void marks() {
        sentence(PASSES, "With MARKS, at the end of the pass 1, 0, 1, 0 are written in the context even.");
        String mark = "18:1 18:0 18:1 18:0";
        bytes("the highest plane", single(MARKS, 1), coded(0, "0:1 9:0", mark));
        bytes("behind pass 2 of each plane alone", single(MARKS, 2), coded(0, "0:1 9:0", mark, "14:0", mark));
        bytes("without", single(0, 2), coded(0, "0:1 9:0", "14:0"));
        PlaneBlocks each = single(MARKS | EACH | PLAIN, 4);
        segment("pass 0 has none", each, 1);
        segment("pass 1 has none", each, 2, coded(PLAIN, "14:0"));
        due("pass 2 has one though it has no other bits", each.pass(3, 4) > each.pass(2, 4) ? 1 : 0, 1);
        bytes("no planes, no marks", written(2, 2, 0, MARKS));
    }

    private static void bypass() {
        sentence("promise 7, Terms, passes", "With BYPASS the passes 0 and 1 from number 10 on are RAW");
        for (int planes = 1; planes <= 31; planes++) {
            PlaneBlocks x = single(BYPASS, 1 << (planes - 1));
            PlaneBlocks without = single(63 - BYPASS, 1 << (planes - 1));
            for (int k = 0; k < 3 * planes - 2; k++) {
                // Pass 2 has the numbers 0, 3, 6, 9, ..
                due("whether pass " + k + " is raw", x.pass(k, 2), k >= 10 && k % 3 != 0 ? 1 : 0);
                due("whether pass " + k + " is raw without BYPASS", without.pass(k, 2), 0);
            }
        }
        segment("pass 9 and those before", single(BYPASS, 31), 9, coded(0, "0:1 9:0 14:1 16:1 16:1"));
        segment("pass 10 and 11", single(BYPASS, 31), 11, 0b10101010);
        segment("pass 12", single(BYPASS, 31), 12, coded(0, ""));
        bytes("four planes have no raw pass", single(BYPASS, 15), coded(0, "0:1 9:0 14:1 16:1 16:1"));
        sentence("promise 5, Terms, passes", "a sign is 1 for minus, never turned");
        // A bit of the second one, 1 and its sign; a bit of the first one; then 0, 1, 0, 1, 0.
        segment("minus beside minus", written(2, 1, 0, BYPASS, -16, -1), 11, 0b11001010);
        segment("plus beside minus", written(2, 1, 0, BYPASS, -16, 1), 11, 0b10001010);
        segment("plus beside plus", written(2, 1, 0, BYPASS, 16, 1), 11, 0b10001010);
        segment("minus below minus", written(1, 2, 0, BYPASS, -16, -1), 11, 0b11001010);
        for (int signs = 0; signs < 4; signs++) {
            int a = signs % 2 == 0 ? 16 : -16;
            int b = signs / 2 == 0 ? 1 : -1;
            PlaneBlocks x = readWholly(block(2, 1, 0, BYPASS, a, b));
            due("read again beside " + a, x.value(1, 0), b);
        }
    }

    private static void contextsAtFirst() {
        sentence(SEGMENTS, "At first the contexts have state 0 and likely bit 0, but context 0 state 4, run state 3, even state 46");
        // Worked out by hand from SIZE, LOW and ROOM as the parts 1313, 2753 and 22017 make them.
        bytes("context 0 and a sign", single(0, 1), 3);
        bytes("context 0 and a minus", single(0, -1), 7);
        for (int style = 0; style < 64; style += 9) {
            Twin twin = new Twin();
            twin.begin(9, 9, 0, style);
            twin.fill(3, 5, -7, 0);
            twin.write();
            twin.bytesAndReaches();
            twin.write();
            twin.bytesAndReaches();
            twin.read(twin.model.passes);
            twin.sum();
            twin.read(twin.model.passes);
            twin.sum();
            alike(twin);
        }
        sentence(SEGMENTS, "with RESET they have that again behind each pass");
        int[] row = new int[24];
        Arrays.fill(row, 15);
        String first = "0:1 9:0" + " 5:1 12:0".repeat(23);
        String second = times(24, "15:1");
        String again = times(24, "16:1");
        bytes("kept", written(24, 1, 0, 0, row), coded(0, first, second, again, again));
        bytes("reset", written(24, 1, 0, RESET, row), coded(0, first, "/", second, "/", again, "/", again));
        bytes("kept where segments end", written(24, 1, 0, EACH, row),
            coded(0, first, ";;", second, ";;;", again, ";;;", again, ";"));
        bytes("reset where segments end", written(24, 1, 0, EACH | RESET, row),
            coded(0, first, ";/;", second, ";/;;", again, ";/;;", again, ";"));
        bytes("context 0, run and even", dotted(1, 12, RESET, 0, 2, 2, 0, 10, 1),
            coded(0, "17:1 18:1 18:0 9:0 3:0 17:0 17:0", "/", "3:0 3:0", "/", "14:0", "/", "0:0 17:0 17:1 18:1 18:0 9:0 3:0"));
        bytes("even behind a mark", single(MARKS | RESET, 2),
            coded(0, "0:1 9:0 18:1 18:0 18:1 18:0", "/", "14:0", "/", "18:1 18:0 18:1 18:0"));
    }

    public static void main(String[] args) {
        test(PassEdgeTest::numbers);
        test(PassEdgeTest::whichAreWritten);
        test(PassEdgeTest::runs);
        test(PassEdgeTest::marks);
        test(PassEdgeTest::bypass);
        test(PassEdgeTest::contextsAtFirst);
        finish();
    }
}
