import java.util.Arrays;

/**
 * Writes a block of coefficients bit-plane by bit-plane in three passes, each bit as likely as its
 * neighbours make it, and reads it again, wholly or up to any pass; with raw bits, ends, marks and
 * neighbours as the style says.
 */
public final class PlaneBlocks {
    private static final int BYPASS = 1;
    private static final int RESET = 2;
    private static final int EACH = 4;
    private static final int CAUSAL = 8;
    private static final int PLAIN = 16;
    private static final int MARKS = 32;
    private static final int MOST_STYLE = 63;

    private static final int MOST_MAGNITUDE = 0x7FFFFFFF;
    private static final int LONGEST_SIDE = 64;
    private static final int MOST_COEFFICIENTS = LONGEST_SIDE * LONGEST_SIDE;
    private static final int STRIPE = 4;
    private static final int MOST_PASSES = 3 * 31 - 2;

    private static final int SPREAD = 0;
    private static final int REFINE = 1;
    private static final int CLEAN = 2;

    private static final int CONTEXTS = 19;
    private static final int FIRST_SIGN = 9;
    private static final int FIRST_AGAIN = 14;
    private static final int RUN = 17;
    private static final int EVEN = 18;

    private static final int STUFFED = 255;
    private static final int HALF = 32768;
    // A size of at least 1 is at least HALF after this many doublings.
    private static final int MOST_DOUBLINGS = 15;

    private final Field field;
    private final Plan plan;
    private final ByteRow row;
    private final Contexts contexts;
    private final CodedWriter codedWriter;
    private final RawWriter rawWriter;
    private final CodedReader codedReader;
    private final RawReader rawReader;
    private final Scan scan;
    private int style;
    private boolean isWritten;
    private boolean isRead;

    public PlaneBlocks() {
        field = new Field();
        plan = new Plan();
        row = new ByteRow();
        contexts = new Contexts();
        codedWriter = new CodedWriter(row, contexts);
        rawWriter = new RawWriter(row);
        codedReader = new CodedReader(row, contexts);
        rawReader = new RawReader(row);
        scan = new Scan(field, codedWriter);
    }

    public void begin(int wide, int high, int band, int style) throws IllegalArgumentException {
        if (wide < 1 || wide > LONGEST_SIDE || high < 1 || high > LONGEST_SIDE) {
            throw new IllegalArgumentException("a block is 1 to 64 wide and high");
        }
        if (band < 0 || band > 3) {
            throw new IllegalArgumentException("a band is 0 to 3");
        }
        if (style < 0 || style > MOST_STYLE) {
            throw new IllegalArgumentException("a style is 0 to 63");
        }
        this.style = style;
        field.resize(wide, high, band, has(CAUSAL));
        forgetAll();
    }

    public void set(int x, int y, int v) throws IllegalArgumentException {
        if (!field.holds(x, y)) {
            throw new IllegalArgumentException("there is no such coefficient");
        }
        if (v < -MOST_MAGNITUDE) {
            throw new IllegalArgumentException("a magnitude is at most 2^31 - 1");
        }
        field.coefficients[field.place(x, y)] = v;
        forgetAll();
    }

    public void fill(int a, int b, int c, int shift) throws IllegalArgumentException {
        if (shift < 0 || shift > 31) {
            throw new IllegalArgumentException("a shift is 0 to 31");
        }
        for (int y = 0; y < field.high; y++) {
            for (int x = 0; x < field.wide; x++) {
                int v = (a * x + b * y + c * x * y) >> shift;
                field.coefficients[field.place(x, y)] = Math.max(v, -MOST_MAGNITUDE);
            }
        }
        forgetAll();
    }

    public int write() {
        startOver();
        plan.lay(style, field.planes());
        row.clear(field.wide * field.high, plan.planes, plan.passes);
        for (int k = 0; k < plan.passes; k++) {
            boolean raw = plan.isRaw(k);
            if (plan.startsSegment(k)) {
                openForWriting(raw);
            }
            scan.aim(raw ? rawWriter : codedWriter, raw, plan.planeOf(k));
            scan.go(plan.kindOf(k), has(MARKS));
            plan.gains[k] = scan.lessened;
            plan.reaches[k] = raw ? rawWriter.enough() : codedWriter.enough();
            if (plan.endsSegment(k)) {
                endWriting(raw);
                plan.closeSegment(k, row.count);
            }
            resetIfAsked();
        }
        isWritten = true;
        isRead = false;
        return plan.passes;
    }

    public int written(int w) throws IllegalStateException, IllegalArgumentException {
        needWritten();
        switch (w) {
            case 0:
                return plan.planes;
            case 1:
                return plan.passes;
            case 2:
                return row.count;
            case 3:
                return plan.segments;
            default:
                throw new IllegalArgumentException("w is 0 to 3");
        }
    }

    public int pass(int k, int w)
            throws IllegalStateException, IndexOutOfBoundsException, IllegalArgumentException {
        needPass(k);
        switch (w) {
            case 0:
                return plan.kindOf(k);
            case 1:
                return plan.planeOf(k);
            case 2:
                return plan.isRaw(k) ? 1 : 0;
            case 3:
                return plan.endsSegment(k) ? 1 : 0;
            case 4:
                return plan.reaches[k];
            default:
                throw new IllegalArgumentException("w is 0 to 4");
        }
    }

    public long gain(int k) throws IllegalStateException, IndexOutOfBoundsException {
        needPass(k);
        return plan.gains[k];
    }

    public int at(int k) throws IllegalStateException, IndexOutOfBoundsException {
        needByte(k);
        return row.bytes[k];
    }

    public int change(int k, int b) throws IllegalStateException, IndexOutOfBoundsException {
        needByte(k);
        int was = row.bytes[k];
        row.bytes[k] = b & 255;
        isRead = false;
        return was;
    }

    public int read(int n) throws IllegalStateException, IllegalArgumentException {
        needWritten();
        if (n < 0 || n > plan.passes) {
            throw new IllegalArgumentException("there are not so many passes");
        }
        startOver();
        for (int k = 0; k < n; k++) {
            boolean raw = plan.isRaw(k);
            if (plan.startsSegment(k)) {
                openForReading(raw, plan.startOf(k), plan.endOf(k, n));
            }
            scan.aim(raw ? rawReader : codedReader, raw, plan.planeOf(k));
            scan.go(plan.kindOf(k), has(MARKS));
            resetIfAsked();
        }
        isRead = true;
        return scan.faults;
    }

    public int value(int x, int y) throws IllegalArgumentException, IllegalStateException {
        needReadAt(x, y);
        return field.valueOf(field.place(x, y));
    }

    public int known(int x, int y) throws IllegalArgumentException, IllegalStateException {
        needReadAt(x, y);
        return field.magnitudes[field.place(x, y)];
    }

    public int sum() throws IllegalStateException {
        needRead();
        int total = 0;
        for (int i = 0; i < field.wide * field.high; i++) {
            total = 31 * total + field.valueOf(i);
        }
        return total;
    }

    private boolean has(int part) {
        return (style & part) != 0;
    }

    private void forgetAll() {
        isWritten = false;
        isRead = false;
    }

    private void startOver() {
        field.forget();
        contexts.restart();
        scan.faults = 0;
    }

    private void resetIfAsked() {
        if (has(RESET)) {
            contexts.restart();
        }
    }

    private void openForWriting(boolean raw) {
        row.openSegment();
        if (raw) {
            rawWriter.open();
        } else {
            codedWriter.open();
        }
    }

    private void endWriting(boolean raw) {
        if (raw) {
            rawWriter.end();
        } else if (has(PLAIN)) {
            codedWriter.endPlainly();
        } else {
            codedWriter.end();
        }
        row.dropStuffed();
    }

    private void openForReading(boolean raw, int from, int to) {
        if (raw) {
            rawReader.open(from, to);
        } else {
            codedReader.open(from, to);
        }
    }

    private void needWritten() {
        if (!isWritten) {
            throw new IllegalStateException("the block was not written");
        }
    }

    private void needPass(int k) {
        needWritten();
        if (k < 0 || k >= plan.passes) {
            throw new IndexOutOfBoundsException("there is no such pass");
        }
    }

    private void needByte(int k) {
        needWritten();
        if (k < 0 || k >= row.count) {
            throw new IndexOutOfBoundsException("there is no such byte");
        }
    }

    private void needRead() {
        if (!isRead) {
            throw new IllegalStateException("nothing is read");
        }
    }

    private void needReadAt(int x, int y) {
        if (!field.holds(x, y)) {
            throw new IllegalArgumentException("there is no such coefficient");
        }
        needRead();
    }

    /** Which passes a written block has, which segments they are in, and what each one gained. */
    private static final class Plan {
        private static final int FIRST_RAW = 10;

        final int[] reaches = new int[MOST_PASSES];
        final long[] gains = new long[MOST_PASSES];
        int planes;
        int passes;
        int segments;
        private int style;
        private int firstOfSegment;

        void lay(int style, int planes) {
            this.style = style;
            this.planes = planes;
            passes = planes == 0 ? 0 : 3 * planes - 2;
            segments = 0;
            firstOfSegment = 0;
        }

        // The highest plane has the last of the three passes alone, so numbers lag behind by two.
        int kindOf(int k) {
            return (k + CLEAN) % 3;
        }

        int planeOf(int k) {
            return planes - 1 - (k + CLEAN) / 3;
        }

        boolean isRaw(int k) {
            return (style & BYPASS) != 0 && k >= FIRST_RAW && kindOf(k) != CLEAN;
        }

        boolean startsSegment(int k) {
            return k == 0 || endsSegment(k - 1);
        }

        boolean endsSegment(int k) {
            if (k == passes - 1 || (style & EACH) != 0) {
                return true;
            }
            if ((style & BYPASS) == 0) {
                return false;
            }
            return kindOf(k) == CLEAN && k >= FIRST_RAW - 1 || kindOf(k) == REFINE && k >= FIRST_RAW;
        }

        void closeSegment(int last, int count) {
            for (int k = firstOfSegment; k < last; k++) {
                reaches[k] = Math.min(reaches[k], count);
            }
            reaches[last] = count;
            firstOfSegment = last + 1;
            segments++;
        }

        /** The place of the first byte of the segment that pass k starts. */
        int startOf(int k) {
            return k == 0 ? 0 : reaches[k - 1];
        }

        /** The place behind the last byte that n passes may use of the segment that pass k starts. */
        int endOf(int k, int n) {
            int last = k;
            while (last < n - 1 && !endsSegment(last)) {
                last++;
            }
            return reaches[last];
        }
    }

    /** The coefficients of the block, and what is known of them so far. */
    private static final class Field {
        // How many neighbours are significant, and how many of those beside, above and below are
        // minus, is counted in the mark of a coefficient whenever one of them becomes so: that
        // happens once, while each pass of each plane asks for it.
        static final int H_AT = 0;
        static final int V_AT = 2;
        static final int D_AT = 4;
        static final int H_MINUS_AT = 7;
        static final int V_MINUS_AT = 9;
        static final int NEAR = (1 << H_MINUS_AT) - 1;
        static final int SIGNIFICANT = 1 << 11;
        static final int MINUS = 1 << 12;
        static final int SEEN = 1 << 13;
        static final int AGAIN = 1 << 14;
        static final int PLANE_AT = 16;
        static final int PLANE = 31 << PLANE_AT;

        int wide = 1;
        int high = 1;
        int[] coefficients = new int[1];
        int[] magnitudes = new int[1];
        int[] marks = new int[1];
        private int band;
        private boolean causal;

        void resize(int wide, int high, int band, boolean causal) {
            this.wide = wide;
            this.high = high;
            this.band = band;
            this.causal = causal;
            int had = coefficients.length;
            if (wide * high > had) {
                // Doubled, so that blocks that grow bit by bit do not fill the room.
                int length = Math.min(MOST_COEFFICIENTS, Math.max(wide * high, 2 * had));
                coefficients = new int[length];
                magnitudes = new int[length];
                marks = new int[length];
            }
            Arrays.fill(coefficients, 0);
        }

        boolean holds(int x, int y) {
            return x >= 0 && x < wide && y >= 0 && y < high;
        }

        int place(int x, int y) {
            return y * wide + x;
        }

        int planes() {
            int all = 0;
            for (int i = 0; i < wide * high; i++) {
                all |= Math.abs(coefficients[i]);
            }
            return 32 - Integer.numberOfLeadingZeros(all);
        }

        void forget() {
            Arrays.fill(magnitudes, 0);
            Arrays.fill(marks, 0);
        }

        void forgetSeen() {
            for (int i = 0; i < wide * high; i++) {
                marks[i] &= ~SEEN;
            }
        }

        int bitOf(int i, int plane) {
            return Math.abs(coefficients[i]) >> plane & 1;
        }

        int minusOf(int i) {
            return coefficients[i] < 0 ? 1 : 0;
        }

        void learn(int i, int plane, int bit) {
            magnitudes[i] |= bit << plane;
            marks[i] = marks[i] & ~PLANE | plane << PLANE_AT;
        }

        /** The square of what the value lacks of the magnitude. */
        long lack(int i) {
            long less = (long) Math.abs(coefficients[i]) - Math.abs(valueOf(i));
            return less * less;
        }

        int valueOf(int i) {
            int mark = marks[i];
            if ((mark & SIGNIFICANT) == 0) {
                return 0;
            }
            int size = magnitudes[i] + (1 << ((mark & PLANE) >> PLANE_AT)) / 2;
            return (mark & MINUS) != 0 ? -size : size;
        }

        void signify(int x, int y, int minus) {
            marks[place(x, y)] |= minus == 1 ? SIGNIFICANT | MINUS : SIGNIFICANT;
            int beside = (1 << H_AT) + (minus << H_MINUS_AT);
            int upright = (1 << V_AT) + (minus << V_MINUS_AT);
            int across = 1 << D_AT;
            tell(x - 1, y, beside);
            tell(x + 1, y, beside);
            tell(x - 1, y + 1, across);
            tell(x, y + 1, upright);
            tell(x + 1, y + 1, across);
            // Those above the first row of a stripe have this one below their own stripe.
            if (!causal || y % STRIPE != 0) {
                tell(x - 1, y - 1, across);
                tell(x, y - 1, upright);
                tell(x + 1, y - 1, across);
            }
        }

        private void tell(int x, int y, int what) {
            if (holds(x, y)) {
                marks[place(x, y)] += what;
            }
        }

        int zeroContext(int i) {
            int h = marks[i] >> H_AT & 3;
            int v = marks[i] >> V_AT & 3;
            int d = marks[i] >> D_AT & 7;
            if (band == 3) {
                return crossContext(h + v, d);
            }
            return band == 1 ? sideContext(v, h, d) : sideContext(h, v, d);
        }

        private static int sideContext(int h, int v, int d) {
            if (h == 2) {
                return 8;
            }
            if (h == 1) {
                return v > 0 ? 7 : d > 0 ? 6 : 5;
            }
            return v > 0 ? v + 2 : Math.min(d, 2);
        }

        private static int crossContext(int s, int d) {
            if (d > 2) {
                return 8;
            }
            if (d == 2) {
                return s > 0 ? 7 : 6;
            }
            return d == 1 ? 3 + Math.min(s, 2) : Math.min(s, 2);
        }

        /** 3 * a + b of the signs around, before it is turned: it is below 0 just if it has to be. */
        int signPull(int i) {
            int mark = marks[i];
            int a = (mark >> H_AT & 3) - 2 * (mark >> H_MINUS_AT & 3);
            int b = (mark >> V_AT & 3) - 2 * (mark >> V_MINUS_AT & 3);
            return 3 * Integer.signum(a) + Integer.signum(b);
        }

        int againContext(int i) {
            if ((marks[i] & AGAIN) != 0) {
                return FIRST_AGAIN + 2;
            }
            return (marks[i] & NEAR) != 0 ? FIRST_AGAIN + 1 : FIRST_AGAIN;
        }
    }

    /** The three passes: with a writer they write the bits of the field, with a reader they read them. */
    private static final class Scan {
        private static final int MARK = 0b1010;

        long lessened;
        int faults;
        private final Field field;
        private Bits bits;
        private boolean raw;
        private int plane;

        Scan(Field field, Bits bits) {
            this.field = field;
            this.bits = bits;
        }

        void aim(Bits bits, boolean raw, int plane) {
            this.bits = bits;
            this.raw = raw;
            this.plane = plane;
        }

        void go(int kind, boolean marked) {
            lessened = 0;
            if (kind == SPREAD) {
                field.forgetSeen();
            }
            for (int top = 0; top < field.high; top += STRIPE) {
                int bottom = Math.min(top + STRIPE, field.high);
                for (int x = 0; x < field.wide; x++) {
                    if (kind == SPREAD) {
                        spread(x, top, bottom);
                    } else if (kind == REFINE) {
                        refine(x, top, bottom);
                    } else {
                        clean(x, top, bottom);
                    }
                }
            }
            if (kind == CLEAN && marked) {
                mark();
            }
        }

        private void spread(int x, int top, int bottom) {
            for (int y = top; y < bottom; y++) {
                int i = field.place(x, y);
                int mark = field.marks[i];
                // The zero context is 0 just if no neighbour is significant, in every band.
                if ((mark & Field.SIGNIFICANT) == 0 && (mark & Field.NEAR) != 0) {
                    field.marks[i] |= Field.SEEN;
                    if (firstBit(i) == 1) {
                        becomeSignificant(x, y);
                    }
                }
            }
        }

        private void refine(int x, int top, int bottom) {
            for (int y = top; y < bottom; y++) {
                int i = field.place(x, y);
                if ((field.marks[i] & (Field.SIGNIFICANT | Field.SEEN)) == Field.SIGNIFICANT) {
                    int bit = bits.next(field.bitOf(i, plane), field.againContext(i));
                    field.marks[i] |= Field.AGAIN;
                    lessened += field.lack(i);
                    field.learn(i, plane, bit);
                    lessened -= field.lack(i);
                }
            }
        }

        private void clean(int x, int top, int bottom) {
            int y = top;
            if (isQuiet(x, top, bottom)) {
                y = top + run(x, top);
                if (y < bottom) {
                    becomeSignificant(x, y);
                }
            }
            for (; y < bottom; y++) {
                int i = field.place(x, y);
                if ((field.marks[i] & (Field.SIGNIFICANT | Field.SEEN)) == 0 && firstBit(i) == 1) {
                    becomeSignificant(x, y);
                }
            }
        }

        private boolean isQuiet(int x, int top, int bottom) {
            int all = 0;
            for (int y = top; y < bottom; y++) {
                all |= field.marks[field.place(x, y)];
            }
            return bottom - top == STRIPE && (all & (Field.NEAR | Field.SIGNIFICANT | Field.SEEN)) == 0;
        }

        /** How many of a quiet column are 0 ahead of the first one that is 1, or all of them. */
        private int run(int x, int top) {
            int zeros = 0;
            while (zeros < STRIPE && field.bitOf(field.place(x, top + zeros), plane) == 0) {
                zeros++;
            }
            if (bits.next(zeros < STRIPE ? 1 : 0, RUN) == 0) {
                return STRIPE;
            }
            int higher = bits.next(zeros >> 1 & 1, EVEN);
            return 2 * higher + bits.next(zeros & 1, EVEN);
        }

        private int firstBit(int i) {
            return bits.next(field.bitOf(i, plane), field.zeroContext(i));
        }

        private void becomeSignificant(int x, int y) {
            int i = field.place(x, y);
            int pull = field.signPull(i);
            int turned = pull < 0 && !raw ? 1 : 0;
            int minus = bits.next(field.minusOf(i) ^ turned, FIRST_SIGN + Math.abs(pull)) ^ turned;
            lessened += field.lack(i);
            field.signify(x, y, minus);
            field.learn(i, plane, 1);
            lessened -= field.lack(i);
        }

        private void mark() {
            int found = 0;
            for (int place = 3; place >= 0; place--) {
                found = 2 * found + bits.next(MARK >> place & 1, EVEN);
            }
            if (found != MARK) {
                faults++;
            }
        }
    }

    /** How likely each bit is in each context. */
    private static final class Contexts {
        private static final int[] PARTS = {
            22017, 13313, 6145, 2753, 1313, 545, 22017, 21505, 18433, 14337,
            12289, 9217, 7169, 5633, 22017, 21505, 20737, 18433, 14337, 13313,
            12289, 10241, 9217, 8705, 7169, 6145, 5633, 5121, 4609, 4353,
            2753, 2497, 2209, 1313, 1089, 673, 545, 321, 273, 133,
            73, 37, 21, 9, 5, 1, 22017,
        };
        private static final int[] NEXT = {
            1, 2, 3, 4, 5, 38, 7, 8, 9, 10,
            11, 12, 13, 29, 15, 16, 17, 18, 19, 20,
            21, 22, 23, 24, 25, 26, 27, 28, 29, 30,
            31, 32, 33, 34, 35, 36, 37, 38, 39, 40,
            41, 42, 43, 44, 45, 45, 46,
        };
        private static final int[] OTHER = {
            1, 6, 9, 12, 29, 33, 6, 14, 14, 14,
            17, 18, 20, 21, 14, 14, 15, 16, 17, 18,
            19, 19, 20, 21, 22, 23, 24, 25, 26, 27,
            28, 29, 30, 31, 32, 33, 34, 35, 36, 37,
            38, 39, 40, 41, 42, 43, 46,
        };

        private final int[] states = new int[CONTEXTS];
        private final int[] likely = new int[CONTEXTS];

        void restart() {
            Arrays.fill(states, 0);
            Arrays.fill(likely, 0);
            states[0] = 4;
            states[RUN] = 3;
            states[EVEN] = 46;
        }

        int part(int context) {
            return PARTS[states[context]];
        }

        int likelyBit(int context) {
            return likely[context];
        }

        void likelyCame(int context) {
            states[context] = NEXT[states[context]];
        }

        void otherCame(int context) {
            int state = states[context];
            if (state == 0 || state == 6 || state == 14) {
                likely[context] = 1 - likely[context];
            }
            states[context] = OTHER[state];
        }
    }

    /** The bytes of all segments, one behind the other. */
    private static final class ByteRow {
        static final int NONE = -1;

        int[] bytes = new int[16];
        int count;
        private int start;

        /** Makes room at once for what such a block mostly needs: a row that grows leaves rows behind. */
        void clear(int coefficients, int planes, int passes) {
            count = 0;
            start = 0;
            int guess = coefficients * (planes + 2) / 7 + 4 * passes;
            if (guess > bytes.length) {
                bytes = new int[Math.max(guess, 2 * bytes.length)];
            }
        }

        void openSegment() {
            start = count;
        }

        /** The last byte of the open segment. */
        int last() {
            return count > start ? bytes[count - 1] : NONE;
        }

        void addToLast(int more) {
            if (count > start) {
                bytes[count - 1] += more;
            }
        }

        void append(int b) {
            if (count == bytes.length) {
                bytes = Arrays.copyOf(bytes, 2 * count);
            }
            bytes[count] = b;
            count++;
        }

        void dropStuffed() {
            if (last() == STUFFED) {
                count--;
            }
        }

        /** The byte at a place of a segment, behind whose end there are 255 alone. */
        int byteOf(int place, int end) {
            return place >= 0 && place < end && place < count ? bytes[place] : STUFFED;
        }
    }

    /** Where the bits of a pass go to or come from. */
    private abstract static class Bits {
        /** A writer writes the bit and answers it; a reader answers the one that it reads instead. */
        abstract int next(int bit, int context);
    }

    private static final class CodedWriter extends Bits {
        private static final int CARRY = 1 << 27;

        private final ByteRow row;
        private final Contexts contexts;
        private int low;
        private int size;
        private int room;

        CodedWriter(ByteRow row, Contexts contexts) {
            this.row = row;
            this.contexts = contexts;
        }

        void open() {
            low = 0;
            size = HALF;
            room = 12;
        }

        /** How many bytes, from the first one of all on, are enough to read all so far. */
        int enough() {
            return row.count + 5;
        }

        int next(int bit, int context) {
            int part = contexts.part(context);
            size -= part;
            if (bit == contexts.likelyBit(context)) {
                if (size >= HALF) {
                    low += part;
                    return bit;
                }
                takeShare(size < part, part);
                contexts.likelyCame(context);
            } else {
                takeShare(size >= part, part);
                contexts.otherCame(context);
            }
            for (int i = 0; i < MOST_DOUBLINGS && size < HALF; i++) {
                size *= 2;
                low *= 2;
                room--;
                if (room == 0) {
                    byteOut();
                }
            }
            return bit;
        }

        private void takeShare(boolean lower, int part) {
            if (lower) {
                size = part;
            } else {
                low += part;
            }
        }

        private void byteOut() {
            int last = row.last();
            if (last != ByteRow.NONE && last != STUFFED && low >= CARRY) {
                low -= CARRY;
                row.addToLast(1);
            }
            // A byte behind a 255 has one bit less, so that a later carry ends in it.
            int shift = row.last() == STUFFED ? 20 : 19;
            row.append(low >> shift & 255);
            low &= (1 << shift) - 1;
            room = 27 - shift;
        }

        void end() {
            int most = low | 0xFFFF;
            low = most < low + size ? most : most - HALF;
            for (int i = 0; i < 2; i++) {
                low <<= room;
                byteOut();
            }
        }

        void endPlainly() {
            int left = 12 - room;
            // Each byte takes seven bits or more of the eleven that there are at most.
            for (int i = 0; i < 2 && left > 0; i++) {
                low <<= room;
                byteOut();
                left -= room;
            }
        }
    }

    private static final class RawWriter extends Bits {
        private final ByteRow row;
        private int free;

        RawWriter(ByteRow row) {
            this.row = row;
        }

        void open() {
            free = 0;
        }

        int enough() {
            return row.count;
        }

        int next(int bit, int context) {
            if (free == 0) {
                free = row.last() == STUFFED ? 7 : 8;
                row.append(0);
            }
            free--;
            row.addToLast(bit << free);
            return bit;
        }

        void end() {
            for (int i = 0; i < 8 && free > 0; i++) {
                next(i & 1, 0);
            }
        }
    }

    private static final class CodedReader extends Bits {
        private final ByteRow row;
        private final Contexts contexts;
        private int place;
        private int end;
        private int window;
        private int size;
        private int room;

        CodedReader(ByteRow row, Contexts contexts) {
            this.row = row;
            this.contexts = contexts;
        }

        void open(int from, int to) {
            place = from;
            end = to;
            window = row.byteOf(place, end) << 16;
            size = HALF;
            byteIn();
            window <<= 7;
            room -= 7;
        }

        private void byteIn() {
            boolean stuffed = row.byteOf(place, end) == STUFFED;
            int following = row.byteOf(place + 1, end);
            if (stuffed && following > 143) {
                // No writer makes this: the segment is at its end, and ones are read from here on.
                window += 0xFF00;
                room = 8;
                return;
            }
            place++;
            window += stuffed ? following << 9 : following << 8;
            room = stuffed ? 7 : 8;
        }

        int next(int bit, int context) {
            int part = contexts.part(context);
            int likely = contexts.likelyBit(context);
            boolean isLikely;
            size -= part;
            if (window >>> 16 < part) {
                isLikely = size < part;
                size = part;
            } else {
                window -= part << 16;
                if (size >= HALF) {
                    return likely;
                }
                isLikely = size >= part;
            }
            if (isLikely) {
                contexts.likelyCame(context);
            } else {
                contexts.otherCame(context);
            }
            for (int i = 0; i < MOST_DOUBLINGS && size < HALF; i++) {
                if (room == 0) {
                    byteIn();
                }
                size *= 2;
                window *= 2;
                room--;
            }
            return isLikely ? likely : 1 - likely;
        }
    }

    private static final class RawReader extends Bits {
        private final ByteRow row;
        private int place;
        private int end;
        private int current;
        private int left;

        RawReader(ByteRow row) {
            this.row = row;
        }

        void open(int from, int to) {
            place = from;
            end = to;
            current = 0;
            left = 0;
        }

        int next(int bit, int context) {
            if (left == 0) {
                left = current == STUFFED ? 7 : 8;
                current = row.byteOf(place, end);
                place++;
            }
            left--;
            return current >> left & 1;
        }
    }
}
