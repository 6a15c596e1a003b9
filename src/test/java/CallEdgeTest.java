import java.util.ArrayList;
import java.util.List;
import java.util.function.Supplier;

/** The sentences of the promises 1 to 14 that name a boundary case, and that a refused call changes nothing. */
public final class CallEdgeTest extends Sentences {
    private static final int[] NOT_INDEXES = {-1, -2, LEAST, MOST};

    // ---- what an object answers in each of its states ----

    private static void nothingWritten(String what, PlaneBlocks x) {
        refuses(STATE, what + ", written(0)", () -> x.written(0));
        refuses(STATE, what + ", pass(0, 0)", () -> x.pass(0, 0));
        refuses(STATE, what + ", gain(0)", () -> x.gain(0));
        refuses(STATE, what + ", at(0)", () -> x.at(0));
        refuses(STATE, what + ", change(0, 0)", () -> x.change(0, 0));
        refuses(STATE, what + ", read(0)", () -> x.read(0));
    }

    private static void nothingRead(String what, PlaneBlocks x) {
        refuses(STATE, what + ", value(0, 0)", () -> x.value(0, 0));
        refuses(STATE, what + ", known(0, 0)", () -> x.known(0, 0));
        refuses(STATE, what + ", sum()", x::sum);
    }

    private static void allGone(String what, PlaneBlocks x) {
        nothingWritten(what, x);
        nothingRead(what, x);
    }

    /** Every answer that can be had without changing anything. */
    private static String portrait(PlaneBlocks x) {
        StringBuilder all = new StringBuilder();
        for (int w = 0; w < 4; w++) {
            int which = w;
            all.append(outcome(() -> x.written(which))).append(' ');
        }
        boolean written = !outcome(() -> x.written(0)).startsWith("throws");
        for (int k = 0; written && k < x.written(1); k++) {
            for (int w = 0; w < 5; w++) {
                all.append(x.pass(k, w)).append(' ');
            }
            all.append(x.gain(k)).append(' ');
        }
        for (int k = 0; written && k < x.written(2); k++) {
            all.append(x.at(k)).append(' ');
        }
        all.append(outcome(x::sum)).append(' ');
        for (int y = 0; y < 3; y++) {
            for (int c = 0; c < 4; c++) {
                int column = c;
                int row = y;
                all.append(outcome(() -> x.value(column, row))).append(' ');
                all.append(outcome(() -> x.known(column, row))).append(' ');
            }
        }
        return all.toString();
    }

    // ---- the promises ----

    private static void newObject() {
        sentence("promise 1", "A block of band 0, one wide and one high, its coefficient 0, style 0");
        PlaneBlocks zero = new PlaneBlocks();
        due("write()", zero.write(), 0);
        due("planes", zero.written(0), 0);
        due("bytes", zero.written(2), 0);
        due("read(0)", zero.read(0), 0);
        due("value(0, 0)", zero.value(0, 0), 0);
        due("sum()", zero.sum(), 0);
        refuses(ARGUMENT, "value(1, 0)", () -> zero.value(1, 0));
        refuses(ARGUMENT, "value(0, 1)", () -> zero.value(0, 1));
        refusesDeed(ARGUMENT, "set(1, 0, 1)", () -> zero.set(1, 0, 1));
        refusesDeed(ARGUMENT, "set(0, 1, 1)", () -> zero.set(0, 1, 1));
        PlaneBlocks x = new PlaneBlocks();
        x.set(0, 0, -31);
        due("write() of -31", x.write(), 13);
        bytes("style 0", x, coded(0, "0:1 9:1 14:1 16:1 16:1 16:1"));
        due("segments", x.written(3), 1);
        sentence("promise 1", "nothing was written or read");
        allGone("new", new PlaneBlocks());
    }

    private static void begin() {
        sentence("promise 2", "A new block, all coefficients 0; nothing was written or read.");
        PlaneBlocks x = readWholly(filled(5, 5, 1, 36, 9, 8, 7, 0));
        x.begin(5, 5, 1, 36);
        allGone("begun with the same size", x);
        due("write() of all zeros", x.write(), 0);
        x.fill(9, 8, 7, 0);
        x.begin(3, 3, 0, 0);
        due("write() of a smaller block", x.write(), 0);
        x.fill(9, 8, 7, 0);
        x.begin(64, 64, 0, 0);
        due("write() of a greater block", x.write(), 0);
        x.read(0);
        due("value(63, 63)", x.value(63, 63), 0);
        due("sum()", x.sum(), 0);
        x.set(63, 63, 1);
        x.write();
        x.begin(64, 64, 3, 63);
        allGone("begun anew", x);

        sentence("promise 2", "IllegalArgumentException if wide or high is not 1 .. 64, band not 0 .. 3, or style not 0 .. 63.");
        for (int side : new int[] {1, 64}) {
            x.begin(side, 1, 0, 0);
            x.begin(1, side, 0, 0);
        }
        for (int side : new int[] {0, 65, -1, -64, 128, 65536 + 1, LEAST, LEAST + 1, MOST}) {
            refusesDeed(ARGUMENT, "wide " + side, () -> x.begin(side, 1, 0, 0));
            refusesDeed(ARGUMENT, "high " + side, () -> x.begin(1, side, 0, 0));
            refusesDeed(ARGUMENT, "wide and high " + side, () -> x.begin(side, side, 0, 0));
        }
        x.begin(1, 1, 3, 63);
        x.begin(1, 1, 0, 0);
        for (int band : new int[] {-1, 4, 5, 256, LEAST, MOST}) {
            refusesDeed(ARGUMENT, "band " + band, () -> x.begin(1, 1, band, 0));
        }
        for (int style : new int[] {-1, 64, 65, 127, 256, LEAST, MOST}) {
            refusesDeed(ARGUMENT, "style " + style, () -> x.begin(1, 1, 0, style));
        }
        refusesDeed(ARGUMENT, "all of them wrong", () -> x.begin(0, 65, 4, 64));
    }

    private static void set() {
        sentence("promise 3", "A coefficient becomes v");
        PlaneBlocks x = block(64, 64, 0, 0);
        int[][] dots = {{0, 0, MOST}, {63, 0, -MOST}, {0, 63, 1}, {63, 63, -1}, {31, 32, 0}};
        for (int[] dot : dots) {
            x.set(dot[0], dot[1], dot[2]);
        }
        x.set(10, 10, 5);
        x.set(10, 10, 0);
        readWholly(x);
        for (int[] dot : dots) {
            due("value(" + dot[0] + ", " + dot[1] + ")", x.value(dot[0], dot[1]), dot[2]);
        }
        due("value(10, 10), set to 0 again", x.value(10, 10), 0);
        sentence("promise 3", "what was written or read is gone");
        PlaneBlocks same = readWholly(block(2, 2, 0, 0, 1, 2, 3, 4));
        same.set(1, 1, 4);
        allGone("set to what it was", same);
        readWholly(same);
        due("the others are as they were", same.sum(), 31 * (31 * (31 + 2) + 3) + 4);
        sentence("promise 3", "IllegalArgumentException if there is none such, or v is -2^31.");
        PlaneBlocks small = block(4, 3, 0, 0);
        for (int[] bad : new int[][] {{4, 0}, {0, 3}, {-1, 0}, {0, -1}, {3, 3}, {4, 2}, {-1, 1}, {12, 0}, {LEAST, 0},
            {0, LEAST}, {MOST, 0}, {0, MOST}, {1 << 30, 1 << 30}, {-4, 1}}) {
            refusesDeed(ARGUMENT, "set(" + bad[0] + ", " + bad[1] + ", 1)", () -> small.set(bad[0], bad[1], 1));
        }
        refusesDeed(ARGUMENT, "set(0, 0, -2^31)", () -> small.set(0, 0, LEAST));
        refusesDeed(ARGUMENT, "set(3, 2, -2^31)", () -> small.set(3, 2, LEAST));
        small.set(3, 2, LEAST + 1);
        due("-2^31 + 1 is taken", small.write(), 91);
    }

    private static void fill() {
        sentence("promise 4", "All coefficients become (a * x + b * y + c * x * y, wrapping)");
        dueFill("the sides alone", 2, 2, 3, -5, 0, 0, 0, 3, -5, -2);
        dueFill("x and y together", 3, 2, 0, 0, 7, 0, 0, 0, 0, 0, 7, 14);
        dueFill("a * x wraps", 3, 1, MOST, 0, 0, 0, 0, MOST, -2);
        dueFill("b * y wraps", 1, 3, 0, MOST, 0, 0, 0, MOST, -2);
        dueFill("c * x * y wraps", 3, 3, 0, 0, 1 << 30, 0, 0, 0, 0, 0, 1 << 30, -MOST, 0, -MOST, 0);
        dueFill("the sum wraps", 2, 2, MOST, MOST, 0, 0, 0, MOST, MOST, -2);
        dueFill("the sum wraps downwards", 2, 2, -MOST, -2, 0, 0, 0, -MOST, -2, MOST);
        PlaneBlocks great = readWholly(filled(64, 64, 0, 0, 123456789, 987654321, -192837465, 0));
        due("the last of 64 by 64", great.value(63, 63), 123456789 * 63 + 987654321 * 63 - 192837465 * 63 * 63);

        sentence("promise 4", "shifted right by so much, with the sign");
        dueFill("by 0", 2, 1, -3, 0, 0, 0, 0, -3);
        dueFill("by 1", 4, 1, -3, 0, 0, 1, 0, -2, -3, -5);
        dueFill("by 31", 2, 2, -1, 1, 0, 31, 0, -1, 0, 0);
        dueFill("by 30", 2, 2, MOST, LEAST, 0, 30, 0, 1, -2, -1);
        dueFill("wrapped before it is shifted", 3, 1, 1 << 30, 0, 0, 30, 0, 1, -2);

        sentence("promise 4", "(-2^31 becomes -2^31 + 1)");
        dueFill("-2^31", 3, 1, LEAST, 0, 0, 0, 0, -MOST, 0);
        dueFill("-2^31 + 1", 2, 1, -MOST, 0, 0, 0, 0, -MOST);
        dueFill("-2^31 shifted by 1", 2, 1, LEAST, 0, 0, 1, 0, -(1 << 30));
        dueFill("-2^31 shifted by 31", 2, 1, LEAST, 0, 0, 31, 0, -1);

        sentence("promise 4", "what was written or read is gone");
        PlaneBlocks x = readWholly(filled(3, 3, 0, 0, 1, 2, 3, 0));
        x.fill(1, 2, 3, 0);
        allGone("filled with what it was", x);
        PlaneBlocks all = block(2, 2, 0, 0, 9, 9, 9, 9);
        all.fill(0, 0, 0, 0);
        due("filled with zeros", all.write(), 0);

        sentence("promise 4", "IllegalArgumentException if shift is not 0 .. 31.");
        for (int shift : new int[] {-1, 32, 33, 63, 64, -31, -32, LEAST, MOST}) {
            refusesDeed(ARGUMENT, "shift " + shift, () -> all.fill(1, 1, 1, shift));
        }
        all.fill(1, 1, 1, 0);
        all.fill(1, 1, 1, 31);
    }

    private static void dueFill(String what, int wide, int high, int a, int b, int c, int... shiftAndValues) {
        PlaneBlocks x = readWholly(filled(wide, high, 0, 0, a, b, c, shiftAndValues[0]));
        for (int i = 0; i < wide * high; i++) {
            due(what + ", value of " + i, x.value(i % wide, i / wide), shiftAndValues[i + 1]);
        }
    }

    private static void write() {
        sentence("promise 5", "how many passes there are");
        due("without planes", block(64, 64, 0, 0).write(), 0);
        due("of one plane", block(64, 64, 0, 0, 1).write(), 1);
        due("of two planes", block(1, 1, 0, 0, 2).write(), 4);
        due("of all planes", block(1, 1, 0, 0, -MOST).write(), 91);
        sentence("promise 5", "The block is written, in place of what was");
        PlaneBlocks x = written(2, 2, 0, 0, 100, -50, 25, -12);
        String first = portrait(x);
        for (int k = 0; k < x.written(2); k++) {
            x.change(k, ~x.at(k));
        }
        x.write();
        due("whether all is as before", portrait(x).equals(first) ? 1 : 0, 1);
        x.set(0, 0, 0);
        x.set(1, 0, 0);
        x.set(0, 1, 0);
        x.set(1, 1, 1);
        due("fewer passes than before", x.write(), 1);
        bytes("fewer bytes than before", x, coded(0, "0:0 0:0 0:0 0:1 9:0"));
        refuses(INDEX, "pass(1, 0)", () -> x.pass(1, 0));
        x.set(1, 1, 0);
        due("none where there were some", x.write(), 0);
        due("no bytes where there were some", x.written(2), 0);
        due("no segments where there were some", x.written(3), 0);
        sentence("promise 5", "Nothing is read then.");
        x.read(0);
        x.write();
        nothingRead("written again", x);
        due("but it is written", x.written(1), 0);
    }

    private static void written() {
        sentence("promise 6", "IllegalStateException if it was not written");
        PlaneBlocks x = new PlaneBlocks();
        for (int w = 0; w < 4; w++) {
            int which = w;
            refuses(STATE, "written(" + w + ")", () -> x.written(which));
        }
        refuses(STATE, "written(4), which is wrong besides", () -> x.written(4));
        x.write();
        due("written(0) of a block without planes", x.written(0), 0);
        sentence("promise 6", "IllegalArgumentException for another w.");
        PlaneBlocks one = single(BYPASS, 31);
        int[] due = {5, 13, 1 + 1 + 2, 3};
        for (int w = 0; w < 4; w++) {
            due("written(" + w + ")", one.written(w), due[w]);
        }
        for (int w : new int[] {-1, 4, 5, LEAST, MOST}) {
            refuses(ARGUMENT, "written(" + w + ")", () -> one.written(w));
            refuses(ARGUMENT, "written(" + w + ") without planes", () -> x.written(w));
        }
    }

    private static void pass() {
        sentence("promise 7", "IllegalStateException if the block was not written");
        PlaneBlocks x = new PlaneBlocks();
        refuses(STATE, "pass(0, 0)", () -> x.pass(0, 0));
        refuses(STATE, "pass(-1, 5), which is wrong besides", () -> x.pass(-1, 5));
        sentence("promise 7", "IndexOutOfBoundsException if there is no such pass");
        x.write();
        refuses(INDEX, "pass(0, 0) without planes", () -> x.pass(0, 0));
        PlaneBlocks four = single(0, 2);
        PlaneBlocks all = single(0, MOST);
        due("pass(3, 0), the last of four", four.pass(3, 0), 2);
        due("pass(90, 1), the last of all", all.pass(90, 1), 0);
        refuses(INDEX, "pass(4, 0) of four", () -> four.pass(4, 0));
        refuses(INDEX, "pass(91, 0) of all", () -> all.pass(91, 0));
        for (int k : NOT_INDEXES) {
            refuses(INDEX, "pass(" + k + ", 0)", () -> four.pass(k, 0));
            refuses(INDEX, "pass(" + k + ", 5), which is wrong besides", () -> four.pass(k, 5));
        }
        sentence("promise 7", "IllegalArgumentException for another w");
        int[] last = {2, 0, 0, 1, four.written(2)};
        for (int w = 0; w < 5; w++) {
            due("pass(3, " + w + ")", four.pass(3, w), last[w]);
        }
        for (int w : new int[] {-1, 5, 6, LEAST, MOST}) {
            refuses(ARGUMENT, "pass(0, " + w + ")", () -> four.pass(0, w));
            refuses(ARGUMENT, "pass(3, " + w + ")", () -> four.pass(3, w));
        }
        sentence("promise 7", "2 whether it is raw, 3 whether a segment ends behind it (1 or 0)");
        PlaneBlocks raw = single(BYPASS, 16);
        due("pass(9, 2)", raw.pass(9, 2), 0);
        due("pass(10, 2)", raw.pass(10, 2), 1);
        due("pass(11, 2)", raw.pass(11, 2), 1);
        due("pass(12, 2)", raw.pass(12, 2), 0);
        due("pass(8, 3)", raw.pass(8, 3), 0);
        due("pass(9, 3)", raw.pass(9, 3), 1);
        due("pass(10, 3)", raw.pass(10, 3), 0);
    }

    private static void gain() {
        sentence("promise 8", "IllegalStateException and IndexOutOfBoundsException as for pass().");
        PlaneBlocks x = new PlaneBlocks();
        refuses(STATE, "gain(0)", () -> x.gain(0));
        refuses(STATE, "gain(-1), which is wrong besides", () -> x.gain(-1));
        x.write();
        refuses(INDEX, "gain(0) without planes", () -> x.gain(0));
        PlaneBlocks four = single(0, 2);
        due("gain(0)", four.gain(0), 3);
        due("gain(2)", four.gain(2), 1);
        due("gain(3), the last", four.gain(3), 0);
        refuses(INDEX, "gain(4)", () -> four.gain(4));
        for (int k : NOT_INDEXES) {
            refuses(INDEX, "gain(" + k + ")", () -> four.gain(k));
        }
        four.change(0, 0);
        four.read(4);
        due("gain(0), which is of writing", four.gain(0), 3);
    }

    private static void at() {
        sentence("promise 9", "IllegalStateException if the block was not written");
        PlaneBlocks x = new PlaneBlocks();
        refuses(STATE, "at(0)", () -> x.at(0));
        refuses(STATE, "at(-1), which is wrong besides", () -> x.at(-1));
        sentence("promise 9", "IndexOutOfBoundsException if there is none such");
        x.write();
        refuses(INDEX, "at(0) without bytes", () -> x.at(0));
        PlaneBlocks one = single(0, -1);
        due("at(0), the only one", one.at(0), 7);
        refuses(INDEX, "at(1)", () -> one.at(1));
        for (int k : NOT_INDEXES) {
            refuses(INDEX, "at(" + k + ")", () -> one.at(k));
        }
        PlaneBlocks longer = filled(8, 8, 0, 0, 99999, 77777, 55555, 0);
        longer.write();
        int bytes = longer.written(2);
        due("the last of many is 0 to 255", longer.at(bytes - 1) >> 8, 0);
        refuses(INDEX, "behind the last of many", () -> longer.at(bytes));
        longer.begin(1, 1, 0, 0);
        longer.set(0, 0, -1);
        longer.write();
        refuses(INDEX, "at(1), which an earlier block had", () -> longer.at(1));
    }

    private static void change() {
        sentence("promise 10", "Byte k becomes b (mod 256): what it was.");
        PlaneBlocks x = single(0, -1);
        int was = 7;
        for (int b : new int[] {0, 255, 256, -1, 257, -256, 511, -257, 128, LEAST, MOST, 7 - 512}) {
            due("change(0, " + b + ")", x.change(0, b), was);
            was = Math.floorMod(b, 256);
            due("at(0) behind change(0, " + b + ")", x.at(0), was);
        }
        x.read(1);
        due("read as it is now", x.value(0, 0), -1);
        due("no byte more", x.written(2), 1);
        sentence("promise 10", "Nothing is read then.");
        x.change(0, 7);
        nothingRead("changed into what it was", x);
        x.read(1);
        x.change(0, 3);
        nothingRead("changed", x);
        due("but it is written", x.written(1), 1);
        x.read(1);
        due("and can be read", x.value(0, 0), 1);
        sentence("promise 10", "IllegalStateException and IndexOutOfBoundsException as for at().");
        PlaneBlocks fresh = new PlaneBlocks();
        refuses(STATE, "change(0, 0)", () -> fresh.change(0, 0));
        refuses(STATE, "change(-1, 0), which is wrong besides", () -> fresh.change(-1, 0));
        fresh.write();
        refuses(INDEX, "change(0, 0) without bytes", () -> fresh.change(0, 0));
        refuses(INDEX, "change(1, 0) of one byte", () -> x.change(1, 0));
        for (int k : NOT_INDEXES) {
            refuses(INDEX, "change(" + k + ", 0)", () -> x.change(k, 0));
        }
    }

    private static void read() {
        sentence("promise 11", "IllegalStateException if the block was not written");
        PlaneBlocks x = new PlaneBlocks();
        refuses(STATE, "read(0)", () -> x.read(0));
        refuses(STATE, "read(-1), which is wrong besides", () -> x.read(-1));
        sentence("promise 11", "IllegalArgumentException if n is not 0 .. its passes");
        x.write();
        due("read(0) without passes", x.read(0), 0);
        due("value(0, 0) then", x.value(0, 0), 0);
        refuses(ARGUMENT, "read(1) without passes", () -> x.read(1));
        PlaneBlocks four = single(0, -3);
        due("read(0)", four.read(0), 0);
        due("sum() behind read(0)", four.sum(), 0);
        due("read(4)", four.read(4), 0);
        due("sum() behind read(4)", four.sum(), -3);
        refuses(ARGUMENT, "read(5)", () -> four.read(5));
        for (int n : NOT_INDEXES) {
            refuses(ARGUMENT, "read(" + n + ")", () -> four.read(n));
        }
        PlaneBlocks all = single(63, -MOST);
        due("read(91)", all.read(91), 0);
        refuses(ARGUMENT, "read(92)", () -> all.read(92));
    }

    private static void valueAndKnown() {
        sentence("promise 12", "IllegalStateException if nothing is read");
        PlaneBlocks x = block(4, 3, 0, 0, 1);
        refuses(STATE, "value(0, 0)", () -> x.value(0, 0));
        x.write();
        refuses(STATE, "value(0, 0), written", () -> x.value(0, 0));
        sentence("promise 12", "IllegalArgumentException if there is none such (this first)");
        int[][] bad = {{4, 0}, {0, 3}, {-1, 0}, {0, -1}, {4, 3}, {12, 0}, {-4, 1}, {LEAST, 0}, {0, LEAST}, {MOST, MOST}};
        for (int[] place : bad) {
            String at = "(" + place[0] + ", " + place[1] + ")";
            refuses(ARGUMENT, "value" + at + ", nothing read", () -> x.value(place[0], place[1]));
            refuses(ARGUMENT, "value" + at + ", new", () -> new PlaneBlocks().value(place[0], place[1]));
        }
        x.read(0);
        for (int[] place : bad) {
            refuses(ARGUMENT, "value(" + place[0] + ", " + place[1] + ")", () -> x.value(place[0], place[1]));
        }
        due("value(3, 2), the last", x.value(3, 2), 0);
        sentence("promise 13", "What is known of its magnitude.");
        PlaneBlocks y = block(4, 3, 0, 0, -6);
        refuses(STATE, "known(0, 0)", () -> y.known(0, 0));
        for (int[] place : bad) {
            refuses(ARGUMENT, "known(" + place[0] + ", " + place[1] + "), nothing read", () -> y.known(place[0], place[1]));
        }
        readWholly(y);
        for (int[] place : bad) {
            refuses(ARGUMENT, "known(" + place[0] + ", " + place[1] + ")", () -> y.known(place[0], place[1]));
        }
        due("known(0, 0) of -6", y.known(0, 0), 6);
        due("known(3, 2), the last", y.known(3, 2), 0);
        y.read(1);
        due("known(0, 0) of -6 behind pass 0", y.known(0, 0), 4);
    }

    private static void sum() {
        sentence("promise 14", "row by row: beginning with 0, 31 times what there was and the value, wrapping");
        due("one alone", readWholly(block(1, 1, 0, 0, -9)).sum(), -9);
        due("none but zeros", readWholly(block(64, 64, 0, 0)).sum(), 0);
        due("row by row", readWholly(block(2, 2, 0, 0, 1, -2, 3, 4)).sum(), 31 * (31 * (31 - 2) + 3) + 4);
        due("2^31 - 1, then 1", readWholly(block(2, 1, 0, 0, MOST, 1)).sum(), 2147483618);
        due("-(2^31 - 1), then -1", readWholly(block(1, 2, 0, 0, -MOST, -1)).sum(), -2147483618);
        sentence("promise 14", "Of all values as they were read");
        PlaneBlocks part = written(2, 1, 0, 0, 7, -5);
        part.read(1);
        due("behind one pass", part.sum(), 31 * 6 - 6);
        part.read(0);
        due("behind none", part.sum(), 0);
        sentence("promise 14", "IllegalStateException if nothing is read.");
        PlaneBlocks x = new PlaneBlocks();
        refuses(STATE, "sum(), new", x::sum);
        x.write();
        refuses(STATE, "sum(), written", x::sum);
        x.read(0);
        due("sum(), read", x.sum(), 0);
        x.set(0, 0, 1);
        refuses(STATE, "sum(), set", x::sum);
    }

    // ---- refused calls ----

    /** A call with the exception that is due when nothing is written, when nothing is read, and behind that. */
    private record Refused(String what, java.util.function.ToLongFunction<PlaneBlocks> call, String... due) {
        String dueIn(int state) {
            return due[Math.min(state, due.length - 1)];
        }
    }

    private interface On {
        void act(PlaneBlocks x);
    }

    private static void refuse(List<Refused> list, String what, On deed, String... due) {
        list.add(new Refused(what, x -> { deed.act(x); return 0; }, due));
    }

    /** Calls that all objects with a block of four by three and seven passes at most refuse. */
    private static List<Refused> refusedCalls() {
        List<Refused> list = new ArrayList<>();
        int[][] begins = {{0, 4, 0, 0}, {4, 0, 0, 0}, {65, 4, 0, 0}, {4, 65, 0, 0}, {8, 8, -1, 0}, {8, 8, 4, 0}, {8, 8, 0, -1}, {8, 8, 0, 64}};
        for (int[] b : begins) {
            refuse(list, "begin(" + b[0] + ", " + b[1] + ", " + b[2] + ", " + b[3] + ")",
                x -> x.begin(b[0], b[1], b[2], b[3]), ARGUMENT);
        }
        int[][] sets = {{4, 0, 1}, {0, 3, 1}, {-1, 0, 1}, {0, -1, 1}, {0, 0, LEAST}, {3, 2, LEAST}};
        for (int[] s : sets) {
            refuse(list, "set(" + s[0] + ", " + s[1] + ", " + s[2] + ")", x -> x.set(s[0], s[1], s[2]), ARGUMENT);
        }
        refuse(list, "fill by -1", x -> x.fill(1, 2, 3, -1), ARGUMENT);
        refuse(list, "fill by 32", x -> x.fill(1, 2, 3, 32), ARGUMENT);
        refuse(list, "written(-1)", x -> x.written(-1), STATE, ARGUMENT);
        refuse(list, "written(4)", x -> x.written(4), STATE, ARGUMENT);
        refuse(list, "pass(-1, 0)", x -> x.pass(-1, 0), STATE, INDEX);
        refuse(list, "pass(7, 0)", x -> x.pass(7, 0), STATE, INDEX);
        refuse(list, "pass(7, 5)", x -> x.pass(7, 5), STATE, INDEX);
        refuse(list, "gain(-1)", x -> x.gain(-1), STATE, INDEX);
        refuse(list, "gain(7)", x -> x.gain(7), STATE, INDEX);
        refuse(list, "at(-1)", x -> x.at(-1), STATE, INDEX);
        refuse(list, "at(99)", x -> x.at(99), STATE, INDEX);
        refuse(list, "change(-1, 5)", x -> x.change(-1, 5), STATE, INDEX);
        refuse(list, "change(99, 5)", x -> x.change(99, 5), STATE, INDEX);
        refuse(list, "read(-1)", x -> x.read(-1), STATE, ARGUMENT);
        refuse(list, "read(8)", x -> x.read(8), STATE, ARGUMENT);
        refuse(list, "value(4, 0)", x -> x.value(4, 0), ARGUMENT);
        refuse(list, "value(0, 3)", x -> x.value(0, 3), ARGUMENT);
        refuse(list, "known(-1, 0)", x -> x.known(-1, 0), ARGUMENT);
        refuse(list, "known(0, -1)", x -> x.known(0, -1), ARGUMENT);
        return list;
    }

    private static PlaneBlocks inState(int state, int style, boolean zeros) {
        PlaneBlocks x = zeros ? block(4, 3, 1, style) : block(4, 3, 1, style, 0, 5, -7, 1, 0, 0, 2, 0, -3, 0, 0, 6);
        if (state >= 1) {
            x.write();
        }
        if (state == 2) {
            x.read(zeros ? 0 : 5);
        }
        return x;
    }

    private static void refusedChangeNothing() {
        sentence("promises 2 to 14, Terms, bits", "A call that throws changes nothing.");
        for (int style : new int[] {0, 1, 52, 63}) {
            for (int state = 0; state < 3; state++) {
                for (Refused refused : refusedCalls()) {
                    changesNothing(refused, state, style, false);
                    changesNothing(refused, state, style, true);
                }
            }
        }
        sentence("promises 2 to 4, Terms, bits", "A call that throws changes nothing.");
        PlaneBlocks x = new PlaneBlocks();
        refusedCalls().forEach(refused -> outcome(() -> refused.call.applyAsLong(x)));
        due("write() of a new object behind them", x.write(), 0);
        refuses(ARGUMENT, "value(1, 0) of a new object behind them", () -> x.value(1, 0));
    }

    private static void changesNothing(Refused refused, int state, int style, boolean zeros) {
        Supplier<PlaneBlocks> fresh = () -> inState(state, style, zeros);
        PlaneBlocks x = fresh.get();
        String what = refused.what + " in state " + state + ", style " + style + (zeros ? ", zeros" : "");
        refuses(refused.dueIn(state), what, () -> refused.call.applyAsLong(x));
        due("whether the answers behind " + what + " are the same", portrait(x).equals(portrait(fresh.get())) ? 1 : 0, 1);
        PlaneBlocks y = fresh.get();
        x.read(x.write());
        y.read(y.write());
        due("whether it is written and read the same behind " + what, portrait(x).equals(portrait(y)) ? 1 : 0, 1);
    }

    public static void main(String[] args) {
        test(CallEdgeTest::newObject);
        test(CallEdgeTest::begin);
        test(CallEdgeTest::set);
        test(CallEdgeTest::fill);
        test(CallEdgeTest::write);
        test(CallEdgeTest::written);
        test(CallEdgeTest::pass);
        test(CallEdgeTest::gain);
        test(CallEdgeTest::at);
        test(CallEdgeTest::change);
        test(CallEdgeTest::read);
        test(CallEdgeTest::valueAndKnown);
        test(CallEdgeTest::sum);
        test(CallEdgeTest::refusedChangeNothing);
        finish();
    }
}
