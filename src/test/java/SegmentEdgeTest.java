import java.util.Arrays;

/** The sentences of the document about segments and reaches that name a boundary case. */
public final class SegmentEdgeTest extends Sentences {
    private static final String SEGMENTS = "promises 5 to 7, Terms, segments";

    /** Pass 2 has the numbers 0, 3, 6, .., pass 0 has 1, 4, 7, .., pass 1 has 2, 5, 8, .. */
    private static boolean endsDue(int style, int k, int passes) {
        boolean bypassed = k >= 9 && k % 3 == 0 || k >= 10 && k % 3 == 2;
        return k == passes - 1 || (style & EACH) != 0 || (style & BYPASS) != 0 && bypassed;
    }

    private static void endsOf(int style) {
        for (int planes = 1; planes <= 31; planes++) {
            PlaneBlocks x = single(style, 1 << (planes - 1));
            int passes = 3 * planes - 2;
            int segments = 0;
            for (int k = 0; k < passes; k++) {
                int ends = endsDue(style, k, passes) ? 1 : 0;
                due("style " + style + ", " + planes + " planes: whether one ends behind pass " + k, x.pass(k, 3), ends);
                segments += ends;
            }
            due("style " + style + ", " + planes + " planes: segments", x.written(3), segments);
        }
    }

    private static void ends() {
        sentence(SEGMENTS, "A segment ENDS behind the last pass");
        endsOf(0);
        endsOf(RESET | CAUSAL | PLAIN | MARKS);
        bytes("all passes in one", single(0, 15), coded(0, "0:1 9:0 14:1 16:1 16:1"));
        sentence(SEGMENTS, "with EACH behind every one");
        endsOf(EACH);
        endsOf(EACH | BYPASS);
        bytes("a segment for each pass", single(EACH, 7), coded(0, "0:1 9:0 ;; 14:1 ;;; 16:1 ;"));
        PlaneBlocks raw = single(EACH | BYPASS | PLAIN, 31);
        due("raw pass 10 alone has no bits and no bytes", raw.pass(10, 4), raw.pass(9, 4));
        due("raw pass 11 alone has a byte", raw.pass(11, 4), raw.pass(10, 4) + 1);
        sentence(SEGMENTS, "with BYPASS behind pass 2 from number 9 on, and behind pass 1 from number 10 on");
        endsOf(BYPASS);
        endsOf(63 - EACH);
        due("4 planes have one segment", single(BYPASS, 8).written(3), 1);
        due("5 planes have three", single(BYPASS, 16).written(3), 3);
        due("31 planes have 55", single(BYPASS, MOST).written(3), 55);
    }

    private static void ways() {
        sentence(SEGMENTS, "A coded segment ends in way 0, with PLAIN in way 1; a raw one as raw ones do.");
        bytes("way 0", single(0, 1), 3);
        bytes("way 1", single(PLAIN, 1), 0);
        bytes("way 0, minus", single(0, -1), 7);
        bytes("way 1, minus", single(PLAIN, -1), 5);
        segment("a raw one", written(2, 1, 0, BYPASS, -16, -1), 11, 0b11001010);
        segment("a raw one with PLAIN", written(2, 1, 0, BYPASS | PLAIN, -16, -1), 11, 0b11001010);
        segment("a coded one without bits", single(BYPASS, 31), 12, 255, 127);
        segment("a coded one without bits, with PLAIN", single(BYPASS | PLAIN, 31), 12);
    }

    private static void reachBehindSegments() {
        sentence("promise 7, Terms, segments", "behind which a segment ends, all so far");
        PlaneBlocks each = filled(9, 9, 0, EACH, 1234567, -7654321, 1111, 12);
        int passes = each.write();
        int before = 0;
        for (int k = 0; k < passes; k++) {
            due("reach " + k + " is not below the one before", Math.max(each.pass(k, 4), before), each.pass(k, 4));
            before = each.pass(k, 4);
        }
        due("the last reach is all there are", before, each.written(2));
        due("the reach of a single pass", single(0, 1).pass(0, 4), 1);
        due("the reach of a single pass without bytes", single(PLAIN | EACH, 2).pass(1, 4), single(PLAIN | EACH, 2).pass(0, 4));
        PlaneBlocks one = single(EACH, 3);
        due("the first of many", one.pass(0, 4), coded(0, "0:1 9:0").length);
        due("the second, without bits", one.pass(1, 4), coded(0, "0:1 9:0 ;").length);
    }

    private static void reachOfRaw() {
        String words = "those of the segments before and what is ENOUGH (below) at the pass's end";
        sentence("promise 7, Terms, segments (raw)", words);
        PlaneBlocks none = single(BYPASS, 16);
        due("no bit", none.pass(10, 4), none.pass(9, 4));
        due("one bit", none.pass(11, 4), none.pass(9, 4) + 1);
        PlaneBlocks five = written(3, 2, 0, BYPASS, 0, 16, 0, 0, 0, 0);
        due("five bits", five.pass(10, 4), five.pass(9, 4) + 1);
        due("six bits", five.pass(11, 4), five.pass(9, 4) + 1);
        PlaneBlocks eight = written(3, 3, 0, BYPASS, 0, 0, 0, 0, 16, 0, 0, 0, 0);
        due("eight bits", eight.pass(10, 4), eight.pass(9, 4) + 1);
        due("nine bits at the segment's end", eight.pass(11, 4), eight.pass(9, 4) + 2);
        PlaneBlocks nine = written(3, 3, 0, BYPASS, 0, 0, 0, 0, 16, 0, 0, 0, 1);
        due("nine bits", nine.pass(10, 4), nine.pass(9, 4) + 2);
        due("ten bits at the segment's end", nine.pass(11, 4), nine.pass(9, 4) + 2);
        PlaneBlocks two = written(2, 1, 0, BYPASS, 32, 1);
        due("a later raw pass of one bit", two.pass(10, 4), two.pass(9, 4) + 1);
        due("a still later one of two bits", two.pass(13, 4), two.pass(12, 4) + 1);
    }

    private static void reachOfCoded() {
        sentence("promise 7, Terms, segments (coded)", "ENOUGH to read what was written in an open segment so far are, if coded, 5 bytes more than it has");
        Twin twin = new Twin();
        twin.begin(20, 20, 0, 0);
        twin.fill(1234567, -7654321, 7777777, 16);
        twin.write();
        int open = 0;
        for (int k = 0; k < twin.model.passes - 1; k++) {
            twin.pass(k, 4);
            open += twin.model.enough[k] < twin.model.bytes.size() ? 1 : 0;
        }
        alike(twin);
        due("whether there were such passes", open > 5 ? 1 : 0, 1);
        int[] row = new int[64];
        Arrays.fill(row, 0x5A5A5A5A);
        PlaneBlocks wide = written(64, 1, 0, 0, row);
        due("behind pass 0", wide.pass(0, 4), bytesBeforeTheEnd("0:1 9:0" + " 5:1 12:0".repeat(63)) + 5);
        due("behind pass 1, which has no bits", wide.pass(1, 4), wide.pass(0, 4));
        sentence("promise 7, Terms, segments", "but not more than there are at the end of its segment");
        for (int k = 0; k < 7; k++) {
            due("reach " + k + " of a short segment", single(0, 6).pass(k, 4), single(0, 6).written(2));
        }
        PlaneBlocks bypassed = single(BYPASS, 31);
        int first = coded(0, "0:1 9:0 14:1 16:1 16:1").length;
        for (int k = 0; k <= 9; k++) {
            due("reach " + k + " of a short segment with others behind it", bypassed.pass(k, 4), first);
        }
        due("whether there are others", bypassed.written(2) > first ? 1 : 0, 1);
        due("the last but one of a long segment", wide.pass(89, 4), wide.written(2));
    }

    private static int bytesBeforeTheEnd(String bits) {
        DocModel model = new DocModel();
        model.resetContexts();
        DocModel.Coder coder = model.new Coder();
        for (String pair : bits.split(" ")) {
            coder.bit(Integer.parseInt(pair.split(":")[1]), Integer.parseInt(pair.split(":")[0]));
        }
        return coder.own.size();
    }

    /** A reader may look at the byte before its own segment only by mistake: it is made 255 here. */
    private static void ownBytes() {
        sentence("promise 11, Terms, segments", "(a segment's own bytes alone count)");
        int raw = 0;
        for (int v = 1; v < 16; v++) {
            PlaneBlocks x = written(4, 1, 0, BYPASS, 16 + v, -v, v, 31);
            x.change(x.pass(9, 4) - 1, 255);
            Twin twin = new Twin();
            twin.begin(4, 1, 0, BYPASS);
            twin.set(0, 0, 16 + v);
            twin.set(1, 0, -v);
            twin.set(2, 0, v);
            twin.set(3, 0, 31);
            twin.write();
            twin.change(twin.blocks.pass(9, 4) - 1, 255);
            twin.change(twin.blocks.pass(11, 4) - 1, 255);
            twin.read(12);
            twin.sum();
            twin.read(13);
            twin.sum();
            alike(twin);
            raw += x.read(12) == 0 && x.value(3, 0) == 31 ? 1 : 0;
        }
        due("whether some raw bits were read as they were written", raw > 0 ? 1 : 0, 1);
        for (int style : new int[] {EACH, EACH | PLAIN, EACH | BYPASS}) {
            Twin twin = new Twin();
            twin.begin(5, 5, 0, style);
            twin.fill(17, 33, -5, 0);
            twin.write();
            for (int k = 0; k < twin.model.passes; k++) {
                int last = twin.model.reach(k) - 1;
                if (last >= 0) {
                    twin.change(last, 255);
                }
                twin.read(twin.model.passes);
                twin.sum();
            }
            alike(twin);
        }
    }

    public static void main(String[] args) {
        test(SegmentEdgeTest::ends);
        test(SegmentEdgeTest::ways);
        test(SegmentEdgeTest::reachBehindSegments);
        test(SegmentEdgeTest::reachOfRaw);
        test(SegmentEdgeTest::reachOfCoded);
        test(SegmentEdgeTest::ownBytes);
        finish();
    }
}
