import java.math.BigInteger;

/** The promises of the document, one by one; the answers that are due were worked out by hand. */
public final class PromiseTest {
    private static int wrong = 0;
    private static final int LEAST = Integer.MIN_VALUE;
    private static final int MOST = Integer.MAX_VALUE;
    private static final String STATE = "IllegalStateException";
    private static final String ARGUMENT = "IllegalArgumentException";
    private static final String INDEX = "IndexOutOfBoundsException";

    private interface Call {
        long answer();
    }

    private interface Deed {
        void act();
    }

    private static void due(int promise, String what, long got, long want) {
        if (got != want) {
            wrong++;
            System.out.println("promise " + promise + ": " + what + " answered " + got + ", due is " + want);
        }
    }

    private static void refuses(int promise, String what, String name, Call call) {
        String got = "an answer";
        try {
            call.answer();
        } catch (RuntimeException e) {
            got = e.getClass().getSimpleName();
        }
        if (!got.equals(name)) {
            wrong++;
            System.out.println("promise " + promise + ": " + what + " gave " + got + ", due is " + name);
        }
    }

    private static void refusesDeed(int promise, String what, String name, Deed deed) {
        refuses(promise, what, name, () -> { deed.act(); return 0; });
    }

    private static void bytes(int promise, String what, PlaneBlocks x, int... want) {
        due(promise, what + ": bytes", x.written(2), want.length);
        for (int k = 0; k < want.length && k < x.written(2); k++) {
            due(promise, what + ": at(" + k + ")", x.at(k), want[k]);
        }
    }

    private static PlaneBlocks single(int style, int v) {
        PlaneBlocks x = new PlaneBlocks();
        x.begin(1, 1, 0, style);
        x.set(0, 0, v);
        x.write();
        return x;
    }

    private static PlaneBlocks readAll(int wide, int high, int band, int style, int... fill) {
        PlaneBlocks x = new PlaneBlocks();
        x.begin(wide, high, band, style);
        x.fill(fill[0], fill[1], fill[2], fill[3]);
        x.read(x.write());
        return x;
    }

    private static void nothingWritten(int promise, String what, PlaneBlocks x) {
        refuses(promise, what + ", written(0)", STATE, () -> x.written(0));
        refuses(promise, what + ", pass(0, 0)", STATE, () -> x.pass(0, 0));
        refuses(promise, what + ", gain(0)", STATE, () -> x.gain(0));
        refuses(promise, what + ", at(0)", STATE, () -> x.at(0));
        refuses(promise, what + ", change(0, 0)", STATE, () -> x.change(0, 0));
        refuses(promise, what + ", read(0)", STATE, () -> x.read(0));
        nothingRead(promise, what, x);
    }

    private static void nothingRead(int promise, String what, PlaneBlocks x) {
        refuses(promise, what + ", value(0, 0)", STATE, () -> x.value(0, 0));
        refuses(promise, what + ", known(0, 0)", STATE, () -> x.known(0, 0));
        refuses(promise, what + ", sum()", STATE, x::sum);
    }

    private static void newObject() {
        PlaneBlocks x = new PlaneBlocks();
        nothingWritten(1, "new", x);
        refuses(1, "value(1, 0)", ARGUMENT, () -> x.value(1, 0));
        refuses(1, "value(0, 1)", ARGUMENT, () -> x.value(0, 1));
        due(1, "write()", x.write(), 0);
        due(1, "read(0)", x.read(0), 0);
        due(1, "value(0, 0)", x.value(0, 0), 0);
        x.set(0, 0, -1);
        due(1, "write()", x.write(), 1);
        bytes(1, "a -1 alone", x, 7);
    }

    private static void begin() {
        PlaneBlocks x = readAll(3, 2, 1, 63, 1, 5, 0, 0);
        int sum = x.sum();
        int[][] bad = {
            {0, 1, 0, 0}, {1, 0, 0, 0}, {65, 1, 0, 0}, {1, 65, 0, 0}, {-1, -1, 0, 0}, {MOST, MOST, 0, 0},
            {1, 1, -1, 0}, {1, 1, 4, 0}, {1, 1, 0, -1}, {1, 1, 0, 64}, {LEAST, 1, 0, 0}, {65536, 65536, 0, 0},
        };
        for (int[] b : bad) {
            refusesDeed(2, "begin of row " + b[0] + " " + b[1] + " " + b[2] + " " + b[3], ARGUMENT,
                () -> x.begin(b[0], b[1], b[2], b[3]));
        }
        due(2, "sum() behind refused calls", x.sum(), sum);
        due(2, "value(2, 1) behind refused calls", x.value(2, 1), 7);
        x.begin(64, 64, 3, 63);
        nothingWritten(2, "begun", x);
        due(2, "write() of zeros", x.write(), 0);
        for (int w = 0; w < 4; w++) {
            due(2, "written(" + w + ") of zeros", x.written(w), 0);
        }
        due(2, "read(0)", x.read(0), 0);
        due(2, "value(63, 63)", x.value(63, 63), 0);
        x.set(63, 63, 9);
        x.begin(64, 64, 3, 63);
        due(2, "write() of a new block", x.write(), 0);
        x.begin(1, 1, 0, 0);
        refusesDeed(2, "set(1, 0, 1) of a small block", ARGUMENT, () -> x.set(1, 0, 1));
    }

    private static void set() {
        PlaneBlocks x = readAll(4, 3, 0, 0, 7, -5, 3, 0);
        int sum = x.sum();
        int[][] bad = {{4, 0, 1}, {0, 3, 1}, {-1, 0, 1}, {0, -1, 1}, {0, 0, LEAST}, {LEAST, MOST, 0}};
        for (int[] b : bad) {
            refusesDeed(3, "set(" + b[0] + ", " + b[1] + ", " + b[2] + ")", ARGUMENT, () -> x.set(b[0], b[1], b[2]));
        }
        due(3, "sum() behind refused calls", x.sum(), sum);
        x.set(3, 2, -MOST);
        nothingWritten(3, "set", x);
        due(3, "write()", x.write(), 91);
        x.read(91);
        due(3, "value(3, 2)", x.value(3, 2), -MOST);
        due(3, "value(3, 1)", x.value(3, 1), 25);
        x.set(3, 2, MOST);
        x.set(0, 0, 0);
        x.read(x.write());
        due(3, "value(3, 2)", x.value(3, 2), MOST);
        x.set(3, 2, 0);
        x.write();
        due(3, "planes without it", x.written(0), 5);
    }

    private static void fill() {
        PlaneBlocks x = readAll(9, 7, 2, 0, 1, 10, 100, 0);
        for (int k = 0; k < 63; k++) {
            due(4, "value of " + k, x.value(k % 9, k / 9), k % 9 + 10 * (k / 9) + 100 * (k % 9) * (k / 9));
        }
        int sum = x.sum();
        refusesDeed(4, "fill by -1", ARGUMENT, () -> x.fill(1, 1, 1, -1));
        refusesDeed(4, "fill by 32", ARGUMENT, () -> x.fill(1, 1, 1, 32));
        due(4, "sum() behind refused calls", x.sum(), sum);
        x.fill(0, 0, 0, 31);
        nothingWritten(4, "filled", x);
        due(4, "write() of zeros", x.write(), 0);
        PlaneBlocks least = readAll(3, 1, 0, 0, LEAST, 0, 0, 0);
        due(4, "-2^31", least.value(1, 0), -MOST);
        due(4, "wrapped to 0", least.value(2, 0), 0);
        PlaneBlocks wrapped = readAll(3, 1, 0, 0, MOST, 0, 0, 0);
        due(4, "2^31 - 1", wrapped.value(1, 0), MOST);
        due(4, "wrapped", wrapped.value(2, 0), -2);
        PlaneBlocks shifted = readAll(4, 1, 0, 0, -3, 0, 0, 1);
        due(4, "-3 shifted by 1", shifted.value(1, 0), -2);
        due(4, "-9 shifted by 1", shifted.value(3, 0), -5);
        PlaneBlocks far = readAll(2, 2, 0, 0, -1, 1, 0, 31);
        due(4, "-1 shifted by 31", far.value(1, 0), -1);
        due(4, "1 shifted by 31", far.value(0, 1), 0);
        due(4, "-2^31 shifted by 1", readAll(2, 1, 0, 0, LEAST, 0, 0, 1).value(1, 0), -1073741824);
    }

    private static void write() {
        bytes(5, "1", single(0, 1), 3);
        bytes(5, "-1", single(0, -1), 7);
        bytes(5, "1, plain", single(16, 1), 0);
        bytes(5, "-1, plain", single(16, -1), 5);
        PlaneBlocks x = single(0, 6);
        due(5, "write() again", x.write(), 7);
        int first = x.at(0);
        x.change(0, first + 1);
        x.read(7);
        x.write();
        due(5, "byte 0 written anew", x.at(0), first);
        nothingRead(5, "written anew", x);
        // Pass 12 of a single coefficient has nothing to write: 255, 127 in way 0, no byte in way 1.
        PlaneBlocks raw = single(1, 31);
        int n = raw.written(2);
        due(5, "a raw 1 and its filling", raw.at(n - 3), 0b10101010);
        due(5, "an empty coded segment", raw.at(n - 2), 255);
        due(5, "an empty coded segment", raw.at(n - 1), 127);
        PlaneBlocks plain = single(17, 30);
        due(5, "a raw 0 and its filling", plain.at(plain.written(2) - 1), 0b00101010);
        causal();
        rawStuffing();
    }

    private static void causal() {
        for (int style = 0; style <= 8; style += 8) {
            for (int x = 0; x < 2; x++) {
                PlaneBlocks b = new PlaneBlocks();
                b.begin(2, 8, 0, style);
                b.set(0, 4, 2);
                b.set(x, 3, -1);
                b.write();
                String what = "style " + style + ", a neighbour below the stripe";
                due(5, what + ": gain(1)", b.gain(1), style == 0 ? 1 : 0);
                due(5, what + ": gain(3)", b.gain(3), style == 0 ? 0 : 1);
                b.read(2);
                due(5, what + ": read up to pass 1", b.value(x, 3), style == 0 ? -1 : 0);
                b.read(4);
                due(5, what + ": read", b.value(x, 3), -1);
            }
        }
        PlaneBlocks b = new PlaneBlocks();
        b.begin(1, 8, 0, 8);
        b.set(0, 3, 2);
        b.set(0, 4, 1);
        b.write();
        due(5, "causal, a neighbour above the stripe", b.gain(1), 1);
    }

    /** Twenty 1 bits in a raw segment: 255, then seven of them behind a 0, then five and 0, 1, 0. */
    private static void rawStuffing() {
        PlaneBlocks x = new PlaneBlocks();
        x.begin(20, 1, 0, 17);
        for (int i = 0; i < 20; i++) {
            x.set(i, 0, 31);
        }
        x.write();
        int from = x.pass(9, 4);
        due(5, "raw bytes", x.pass(11, 4) - from, 3);
        due(5, "raw byte 0", x.at(from), 255);
        due(5, "raw byte 1", x.at(from + 1), 127);
        due(5, "raw byte 2", x.at(from + 2), 0b11111010);
        x.begin(8, 1, 0, 17);
        for (int i = 0; i < 8; i++) {
            x.set(i, 0, 31);
        }
        x.write();
        due(5, "a raw 255 at the end is taken away", x.pass(11, 4), x.pass(9, 4));
        x.read(13);
        due(5, "and read all the same", x.value(7, 0), 31);
    }

    private static void written() {
        PlaneBlocks x = new PlaneBlocks();
        refuses(6, "written(9), not written", STATE, () -> x.written(9));
        x.begin(1, 1, 0, 1);
        x.set(0, 0, 31);
        x.write();
        due(6, "planes", x.written(0), 5);
        due(6, "passes", x.written(1), 13);
        due(6, "segments", x.written(3), 3);
        refuses(6, "written(-1)", ARGUMENT, () -> x.written(-1));
        refuses(6, "written(4)", ARGUMENT, () -> x.written(4));
        due(6, "segments of 4 planes with bypass", single(1, 15).written(3), 1);
        due(6, "segments with each", single(4, 31).written(3), 13);
        due(6, "segments with each and bypass", single(5, 31).written(3), 13);
        due(6, "segments without", single(0, MOST).written(3), 1);
        due(6, "segments of 31 planes with bypass", single(1, -MOST).written(3), 55);
        due(6, "bytes of 1", single(0, 1).written(2), 1);
    }

    private static void pass() {
        PlaneBlocks x = new PlaneBlocks();
        refuses(7, "pass(-1, 9), not written", STATE, () -> x.pass(-1, 9));
        x.set(0, 0, 63);
        due(7, "write()", x.write(), 16);
        for (int k = 0; k < 16; k++) {
            due(7, "which pass " + k + " is", x.pass(k, 0), (k + 2) % 3);
            due(7, "the plane of pass " + k, x.pass(k, 1), 5 - (k + 2) / 3);
            due(7, "whether pass " + k + " is raw", x.pass(k, 2), 0);
            due(7, "whether a segment ends behind pass " + k, x.pass(k, 3), k == 15 ? 1 : 0);
        }
        due(7, "the reach of the last pass", x.pass(15, 4), x.written(2));
        due(7, "the reach of pass 0", x.pass(0, 4), Math.min(5, x.written(2)));
        refuses(7, "pass(-1, 9)", INDEX, () -> x.pass(-1, 9));
        refuses(7, "pass(16, 0)", INDEX, () -> x.pass(16, 0));
        refuses(7, "pass(0, 5)", ARGUMENT, () -> x.pass(0, 5));
        refuses(7, "pass(0, -1)", ARGUMENT, () -> x.pass(0, -1));
        x.begin(1, 1, 0, 1);
        refuses(7, "pass(0, 0), begun", STATE, () -> x.pass(0, 0));
        x.set(0, 0, 63);
        x.write();
        for (int k = 0; k < 16; k++) {
            due(7, "raw, pass " + k, x.pass(k, 2), k == 10 || k == 11 || k == 13 || k == 14 ? 1 : 0);
            due(7, "ends, pass " + k, x.pass(k, 3), k == 9 || k == 11 || k == 12 || k == 14 || k == 15 ? 1 : 0);
        }
        due(7, "reach of a raw pass without bits", x.pass(10, 4), x.pass(9, 4));
        due(7, "reach of a raw pass with one bit", x.pass(11, 4), x.pass(9, 4) + 1);
        PlaneBlocks long1 = readAll(64, 64, 0, 0, 99991, 77773, 1234567, 0);
        int before = 0;
        for (int k = 0; k < long1.written(1); k++) {
            due(7, "reach grows, pass " + k, Math.min(long1.pass(k, 4), before), before);
            before = long1.pass(k, 4);
        }
        due(7, "reach of the last of many", before, long1.written(2));
        x.begin(4, 4, 0, 0);
        x.write();
        refuses(7, "pass(0, 0) without planes", INDEX, () -> x.pass(0, 0));
    }

    private static void gain() {
        PlaneBlocks x = new PlaneBlocks();
        refuses(8, "gain(-1), not written", STATE, () -> x.gain(-1));
        long[][] due = {{5, 24, 0, 1, 0, 0, 0, 0}, {6, 36, 0, -1, 0, 0, 1, 0}, {-7, 48, 0, 1, 0, 0, 0, 0}};
        for (long[] row : due) {
            PlaneBlocks one = single(0, (int) row[0]);
            for (int k = 0; k < 7; k++) {
                due(8, "gain(" + k + ") of " + row[0], one.gain(k), row[k + 1]);
            }
            refuses(8, "gain(7)", INDEX, () -> one.gain(7));
            refuses(8, "gain(-1)", INDEX, () -> one.gain(-1));
        }
        x.begin(64, 64, 0, 0);
        for (int i = 0; i < 400; i++) {
            x.set(i % 64, i / 64, i % 2 == 0 ? MOST : -MOST);
        }
        x.write();
        BigInteger most = BigInteger.valueOf(MOST);
        BigInteger less = most.subtract(BigInteger.valueOf(3L << 29));
        BigInteger all = most.pow(2).subtract(less.pow(2)).multiply(BigInteger.valueOf(400));
        due(8, "a gain that wraps", x.gain(0), all.longValue());
        PlaneBlocks raw = single(1, 30);
        due(8, "the gain of a raw pass", raw.gain(11), 1);
    }

    private static void at() {
        PlaneBlocks x = new PlaneBlocks();
        refuses(9, "at(-1), not written", STATE, () -> x.at(-1));
        x.write();
        refuses(9, "at(0) without bytes", INDEX, () -> x.at(0));
        PlaneBlocks one = single(0, -1);
        due(9, "at(0)", one.at(0), 7);
        refuses(9, "at(1)", INDEX, () -> one.at(1));
        refuses(9, "at(-1)", INDEX, () -> one.at(-1));
        refuses(9, "at(2^31 - 1)", INDEX, () -> one.at(MOST));
    }

    private static void change() {
        PlaneBlocks x = new PlaneBlocks();
        refuses(10, "change(-1, 0), not written", STATE, () -> x.change(-1, 0));
        PlaneBlocks one = single(0, 1);
        one.read(1);
        refuses(10, "change(1, 0)", INDEX, () -> one.change(1, 0));
        refuses(10, "change(-1, 0)", INDEX, () -> one.change(-1, 0));
        due(10, "value(0, 0) behind refused calls", one.value(0, 0), 1);
        due(10, "change(0, 263)", one.change(0, 263), 3);
        nothingRead(10, "changed", one);
        due(10, "change(0, -1)", one.change(0, -1), 7);
        due(10, "change(0, 7)", one.change(0, 7), 255);
        due(10, "written(2)", one.written(2), 1);
        one.read(1);
        due(10, "read as -1", one.value(0, 0), -1);
        one.change(0, 7);
        nothingRead(10, "changed to what it was", one);
    }

    private static void read() {
        PlaneBlocks x = new PlaneBlocks();
        refuses(11, "read(-1), not written", STATE, () -> x.read(-1));
        PlaneBlocks one = single(0, -6);
        due(11, "read(7)", one.read(7), 0);
        refuses(11, "read(8)", ARGUMENT, () -> one.read(8));
        refuses(11, "read(-1)", ARGUMENT, () -> one.read(-1));
        due(11, "value(0, 0) behind refused calls", one.value(0, 0), -6);
        due(11, "read(0)", one.read(0), 0);
        due(11, "value(0, 0) behind read(0)", one.value(0, 0), 0);
        for (int style = 0; style < 64; style++) {
            PlaneBlocks b = readAll(13, 11, style % 4, style, 123456789, -987654321, 55555, 3);
            due(11, "faults, style " + style, b.read(b.written(1)), 0);
            for (int k = 0; k < 143; k++) {
                int at = k % 13;
                int row = k / 13;
                int want = (123456789 * at - 987654321 * row + 55555 * at * row) >> 3;
                due(11, "style " + style + ", value of " + k, b.value(at, row), want);
            }
        }
        faults();
    }

    private static void faults() {
        PlaneBlocks marked = new PlaneBlocks();
        marked.begin(8, 8, 0, 36);
        marked.fill(5, 3, 1, 0);
        int passes = marked.write();
        int planes = marked.written(0);
        for (int k = 0; k < marked.written(2); k++) {
            marked.change(k, 0);
        }
        int all = marked.read(passes);
        due(11, "marks that are changed are faults", all > 0 && all <= planes ? 1 : 0, 1);
        due(11, "no mark is read, no fault", marked.read(0), 0);
        int none = 0;
        for (int k = 1; k < passes; k += 3) {
            none += marked.read(k + 2) - marked.read(k);
        }
        due(11, "passes 0 and 1 have no marks", none, 0);
        PlaneBlocks unmarked = new PlaneBlocks();
        unmarked.begin(8, 8, 0, 4);
        unmarked.fill(5, 3, 1, 0);
        unmarked.write();
        for (int k = 0; k < unmarked.written(2); k++) {
            unmarked.change(k, 0);
        }
        due(11, "without marks there are no faults", unmarked.read(unmarked.written(1)), 0);
    }

    private static void valueAndKnown() {
        PlaneBlocks x = new PlaneBlocks();
        x.begin(3, 2, 0, 0);
        refuses(12, "value(3, 0), nothing read", ARGUMENT, () -> x.value(3, 0));
        refuses(13, "known(0, 2), nothing read", ARGUMENT, () -> x.known(0, 2));
        refuses(12, "value(0, 0), nothing read", STATE, () -> x.value(0, 0));
        refuses(13, "known(0, 0), nothing read", STATE, () -> x.known(0, 0));
        x.write();
        refuses(12, "value(0, 0), written alone", STATE, () -> x.value(0, 0));
        x.read(0);
        refuses(12, "value(-1, 0)", ARGUMENT, () -> x.value(-1, 0));
        refuses(12, "value(0, -1)", ARGUMENT, () -> x.value(0, -1));
        refuses(13, "known(3, 0)", ARGUMENT, () -> x.known(3, 0));
        refuses(13, "known(0, -1)", ARGUMENT, () -> x.known(0, -1));
        due(12, "value(2, 1)", x.value(2, 1), 0);
        due(13, "known(2, 1)", x.known(2, 1), 0);
        int[] values = {0, -6, -6, -7, -7, -7, -6, -6};
        int[] knowns = {0, 4, 4, 6, 6, 6, 6, 6};
        PlaneBlocks one = single(0, -6);
        for (int n = 0; n <= 7; n++) {
            one.read(n);
            due(12, "value of -6 behind " + n + " passes", one.value(0, 0), values[n]);
            due(13, "known of -6 behind " + n + " passes", one.known(0, 0), knowns[n]);
        }
        PlaneBlocks most = single(63, -MOST);
        most.read(1);
        due(12, "the value of the greatest, behind pass 0", most.value(0, 0), -(3 << 29));
        due(13, "what is known of it", most.known(0, 0), 1 << 30);
        most.read(91);
        due(12, "the value of the greatest", most.value(0, 0), -MOST);
        due(13, "what is known of the greatest", most.known(0, 0), MOST);
    }

    private static void sum() {
        PlaneBlocks x = new PlaneBlocks();
        refuses(14, "sum(), nothing read", STATE, x::sum);
        x.begin(2, 2, 0, 0);
        x.set(0, 0, 1);
        x.set(1, 0, -2);
        x.set(0, 1, 3);
        x.set(1, 1, 4);
        int n = x.write();
        refuses(14, "sum(), written alone", STATE, x::sum);
        x.read(n);
        due(14, "sum()", x.sum(), 31 * (31 * (31 - 2) + 3) + 4);
        x.read(0);
        due(14, "sum() of zeros", x.sum(), 0);
        PlaneBlocks great = readAll(64, 64, 0, 0, 12345678, 87654321, 5, 0);
        int total = 0;
        for (int k = 0; k < 4096; k++) {
            total = 31 * total + 12345678 * (k % 64) + 87654321 * (k / 64) + 5 * (k % 64) * (k / 64);
        }
        due(14, "sum() that wraps", great.sum(), total);
    }

    public static void main(String[] args) {
        newObject();
        begin();
        set();
        fill();
        write();
        written();
        pass();
        gain();
        at();
        change();
        read();
        valueAndKnown();
        sum();
        System.out.println(wrong == 0 ? "all promises hold" : wrong + " answers are not as due");
        if (wrong != 0) {
            System.exit(1);
        }
    }
}
