import java.math.BigInteger;

/** The sentences of the document about reading, values and gains that name a boundary case. */
public final class ReadEdgeTest extends Sentences {
    private static final String READING = "promise 11, Terms, reading";

    private static void ownSegments() {
        sentence(READING, "The bytes of a segment are its own");
        // The raw segment of eight ones is a 255, which is taken away: the reader finds it all the same,
        // whatever the next segment begins with.
        PlaneBlocks x = written(8, 1, 0, BYPASS | MARKS, 31, 31, 31, 31, 31, 31, 31, 31);
        int at = x.pass(11, 4);
        due("bytes of the raw segment", at - x.pass(9, 4), 0);
        for (int b : new int[] {x.at(at), 0, 85, 170, 255}) {
            x.change(at, b);
            x.read(12);
            due("the last of eight, with " + b + " behind it", x.value(7, 0), 31);
            due("the sum, with " + b + " behind it", x.sum(), sumOf(31, 8));
        }
        for (int style : new int[] {EACH, EACH | PLAIN, EACH | MARKS | PLAIN}) {
            spoiledSegments(style);
        }
    }

    private static int sumOf(int v, int many) {
        int sum = 0;
        for (int i = 0; i < many; i++) {
            sum = 31 * sum + v;
        }
        return sum;
    }

    /** With its own bytes spoiled a reader wants more of them than there are: it must not take others. */
    private static void spoiledSegments(int style) {
        int passes = filled(6, 6, 0, style, 17, -29, 3, 0).write();
        for (int k = 0; k < passes - 1; k++) {
            PlaneBlocks x = filled(6, 6, 0, style, 17, -29, 3, 0);
            x.write();
            int end = x.pass(k, 4);
            for (int i = segmentStart(x, k); i < end; i++) {
                x.change(i, 0);
            }
            x.read(k + 1);
            int sum = x.sum();
            for (int i = end; i < x.written(2) && i < end + 4; i++) {
                x.change(i, x.at(i) ^ 0x5A);
            }
            x.read(k + 1);
            due("style " + style + ", the sum behind pass " + k + " with other bytes behind it", x.sum(), sum);
        }
    }

    private static void upToTheReach() {
        sentence(READING, "of the last one, if not all of its passes are read, those up to the reach of the last pass that is read");
        for (int style : new int[] {0, CAUSAL, RESET}) {
            Twin twin = new Twin();
            twin.begin(16, 16, 0, style);
            twin.fill(1234567, -7654321, 7777777, 20);
            twin.write();
            for (int i = 0; i < 6; i++) {
                twin.change(i, 0);
            }
            for (int n = 1; n < twin.model.passes; n++) {
                twin.read(n);
                twin.sum();
                int reach = twin.model.reach(n - 1);
                int sum = twin.blocks.sum();
                if (reach < twin.model.bytes.size()) {
                    int was = twin.blocks.at(reach);
                    twin.change(reach, was ^ 0xFF);
                    twin.read(n);
                    due("the sum of " + n + " passes with another byte behind their reach", twin.blocks.sum(), sum);
                    twin.change(reach, was);
                }
            }
            alike(twin);
        }
        // Raw pass 10 has the bits 1 and 0 in the byte that pass 11 fills up: its reach takes the byte in.
        PlaneBlocks raw = written(2, 1, 0, BYPASS, 16, 1);
        raw.read(11);
        due("a raw pass whose last byte is shared", raw.value(1, 0), 1);
    }

    private static void bitsNotRead() {
        sentence("promises 11 and 13, Terms, reading", "A plane's bits that are not read yet are 0.");
        int[][] known = {{0, 0}, {4, 4}, {4, 4}, {6, 4}, {6, 4}, {6, 4}, {7, 5}, {7, 5}};
        for (int style = 0; style < 64; style++) {
            PlaneBlocks x = written(2, 1, style % 4, style, 7, -5);
            for (int n = 0; n <= 7; n++) {
                x.read(n);
                due("style " + style + ", known of 7 behind " + n + " passes", x.known(0, 0), known[n][0]);
                due("style " + style + ", known of -5 behind " + n + " passes", x.known(1, 0), known[n][1]);
            }
        }
        PlaneBlocks x = written(2, 1, 0, 0, 7, -5);
        x.read(7);
        x.read(3);
        due("known of 7 when fewer passes are read than before", x.known(0, 0), 6);
        x.read(0);
        due("known of 7 when none is read", x.known(0, 0), 0);
        due("value of -5 when none is read", x.value(1, 0), 0);
    }

    private static void faults() {
        sentence(READING, "A MARK that is not 1, 0, 1, 0 is a FAULT.");
        for (int pattern = 0; pattern < 16; pattern++) {
            PlaneBlocks x = single(MARKS | PLAIN, 2);
            String mark = "";
            for (int i = 3; i >= 0; i--) {
                mark += " 18:" + (pattern >> i & 1);
            }
            String good = " 18:1 18:0 18:1 18:0";
            int fault = pattern == 0b1010 ? 0 : 1;
            spoil(x, coded(PLAIN, "0:1 9:0" + mark + " 14:0" + good));
            due("read(4), the first mark being" + mark, x.read(4), fault);
            due("read(1), the first mark being" + mark, x.read(1), fault);
            due("read(0)", x.read(0), 0);
            spoil(x, coded(PLAIN, "0:1 9:0" + good + " 14:0" + mark));
            due("read(4), the second mark being" + mark, x.read(4), fault);
            due("read(3), the second mark being" + mark, x.read(3), 0);
            spoil(x, coded(PLAIN, "0:1 9:0" + mark + " 14:0" + mark));
            due("read(4), both being" + mark, x.read(4), 2 * fault);
            x.write();
            due("written anew", x.read(4), 0);
        }
        for (int style = 0; style < 64; style++) {
            due("read wholly, style " + style, single(style, 31).read(13), 0);
        }
        PlaneBlocks without = single(0, -3);
        spoil(without, coded(0, "0:1 9:0 14:0"));
        due("no marks, no faults", without.read(4), 0);
        due("but another value", without.value(0, 0), 2);
    }

    /** Other bytes in place of those written; what is missing at the end is 255, as the reader finds it. */
    private static void spoil(PlaneBlocks x, int[] bytes) {
        due("whether the bytes find room", bytes.length <= x.written(2) ? 1 : 0, 1);
        for (int k = 0; k < x.written(2); k++) {
            x.change(k, k < bytes.length ? bytes[k] : 255);
        }
    }

    private static void values() {
        sentence("promises 12 and 13, Terms, reading", "KNOWN of a coefficient is its magnitude so far.");
        PlaneBlocks x = single(0, -MOST);
        for (int plane = 30; plane >= 0; plane--) {
            x.read(3 * (31 - plane) - 2);
            due("known of -(2^31 - 1) down to plane " + plane, x.known(0, 0), MOST >> plane << plane);
        }
        sentence("promise 12, Terms, reading", "Its VALUE is 0 if it is not significant");
        PlaneBlocks late = written(3, 1, 0, 0, 8, 0, -1);
        for (int n = 0; n < 10; n++) {
            late.read(n);
            due("value of -1 behind " + n + " passes", late.value(2, 0), 0);
            due("value of 0 behind " + n + " passes", late.value(1, 0), 0);
        }
        late.read(10);
        due("value of -1 behind all", late.value(2, 0), -1);
        sentence("promise 12, Terms, reading",
            "otherwise known, and half of 2^q rounded down, q being the plane of its latest bit, with its sign");
        int[] first = {0, 6, 6, 7, 7, 7, 7, 7};
        int[] second = {0, -6, -6, -5, -5, -5, -5, -5};
        PlaneBlocks two = written(2, 1, 0, 0, 7, -5);
        for (int n = 0; n <= 7; n++) {
            two.read(n);
            due("value of 7 behind " + n + " passes", two.value(0, 0), first[n]);
            due("value of -5 behind " + n + " passes", two.value(1, 0), second[n]);
        }
        for (int plane = 30; plane >= 0; plane--) {
            PlaneBlocks one = single(0, -(1 << plane));
            one.read(1);
            due("value of -2^" + plane + " behind its first bit", one.value(0, 0), -(1 << plane) - (1 << plane) / 2);
            one.read(3 * plane + 1);
            due("value of -2^" + plane + " behind all", one.value(0, 0), -(1 << plane));
        }
        // Pass 0 of plane 1 finds the second one, while the first has its bit of plane 1 in pass 1.
        PlaneBlocks apart = written(2, 1, 0, 0, 6, 2);
        apart.read(2);
        due("value of 6, whose latest bit is of plane 2", apart.value(0, 0), 6);
        due("value of 2, whose latest bit is of plane 1", apart.value(1, 0), 3);
        apart.read(3);
        due("value of 6, whose latest bit is of plane 1", apart.value(0, 0), 7);
    }

    private static void gains() {
        sentence("promise 8, Terms, reading",
            "the sum over all coefficients of the square of (magnitude less the value's) before the pass, less that behind it");
        long[][] due = {{5, 24, 0, 1, 0, 0, 0, 0}, {6, 36, 0, -1, 0, 0, 1, 0}, {-7, 48, 0, 1, 0, 0, 0, 0}};
        for (long[] row : due) {
            PlaneBlocks one = single(0, (int) row[0]);
            for (int k = 0; k < 7; k++) {
                due("gain(" + k + ") of " + row[0], one.gain(k), row[k + 1]);
            }
        }
        PlaneBlocks raw = single(BYPASS, 30);
        due("a raw pass", raw.gain(11), 1);
        PlaneBlocks most = single(0, -MOST);
        long all = 0;
        for (int k = 0; k < 91; k++) {
            all += most.gain(k);
        }
        due("all gains of -(2^31 - 1)", all, (long) MOST * MOST);
        sentence("promise 8, Terms, reading", "(wrapping round at 2^64)");
        PlaneBlocks x = filled(64, 64, 0, 0, LEAST, 0, 0, 0);
        x.write();
        BigInteger before = BigInteger.valueOf(MOST).pow(2);
        BigInteger behind = BigInteger.valueOf(MOST - (3L << 29)).pow(2);
        BigInteger gain = before.subtract(behind).multiply(BigInteger.valueOf(2048));
        due("whether it is above 2^64", gain.bitLength() > 64 ? 1 : 0, 1);
        due("gain(0)", x.gain(0), gain.longValue());
        long sum = 0;
        for (int k = 0; k < 91; k++) {
            sum += x.gain(k);
        }
        due("all gains together", sum, before.multiply(BigInteger.valueOf(2048)).longValue());
    }

    public static void main(String[] args) {
        test(ReadEdgeTest::ownSegments);
        test(ReadEdgeTest::upToTheReach);
        test(ReadEdgeTest::bitsNotRead);
        test(ReadEdgeTest::faults);
        test(ReadEdgeTest::values);
        test(ReadEdgeTest::gains);
        finish();
    }
}
