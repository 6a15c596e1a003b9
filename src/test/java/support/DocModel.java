import java.math.BigInteger;
import java.util.ArrayList;
import java.util.List;
import java.util.Set;
import java.util.TreeSet;

/**
 * The document once more, word by word and without any haste: what PlaneBlocks is compared with.
 * It looks at every neighbour each time, sums up all coefficients for each gain, and keeps nothing
 * that could be worked out anew.
 */
final class DocModel {
    static final int[][] STATES = states(
        "22017 1 1, 13313 2 6, 6145 3 9, 2753 4 12, 1313 5 29, 545 38 33, 22017 7 6, 21505 8 14, 18433 9 14, 14337 10 14,"
        + "12289 11 17, 9217 12 18, 7169 13 20, 5633 29 21, 22017 15 14, 21505 16 14, 20737 17 15, 18433 18 16, 14337 19 17, 13313 20 18,"
        + "12289 21 19, 10241 22 19, 9217 23 20, 8705 24 21, 7169 25 22, 6145 26 23, 5633 27 24, 5121 28 25, 4609 29 26, 4353 30 27,"
        + "2753 31 28, 2497 32 29, 2209 33 30, 1313 34 31, 1089 35 32, 673 36 33, 545 37 34, 321 38 35, 273 39 36, 133 40 37,"
        + "73 41 38, 37 42 39, 21 43 40, 9 44 41, 5 45 42, 1 45 43, 22017 46 46");

    static int[][] states(String text) {
        String[] rows = text.split(",");
        int[][] table = new int[rows.length][3];
        for (int i = 0; i < rows.length; i++) {
            String[] cells = rows[i].trim().split(" ");
            for (int j = 0; j < 3; j++) {
                table[i][j] = Integer.parseInt(cells[j]);
            }
        }
        return table;
    }

    /** A bit goes out, or another one comes in. */
    interface Channel {
        int bit(int wanted, int context);
    }

    // ---- the block ----
    int wide = 1, high = 1, band = 0, style = 0;
    int[][] coefficient = new int[1][1];
    boolean written, read;

    // ---- what was written ----
    int planes, passes;
    List<Integer> bytes = new ArrayList<>();
    List<int[]> segments = new ArrayList<>(); // first pass, last pass, first byte, bytes
    long[] enough;
    BigInteger[] gains;

    // ---- the state of writing or reading ----
    boolean[][] significant, minus, byPassZero, byPassOne;
    int[][] magnitude, latest;
    int[] state = new int[19], likely = new int[19];
    int faults;

    /** Which of the rare cases came, so that a test can tell that it saw the one that it is about. */
    final Set<String> met = new TreeSet<>();
    final boolean[] otherIn = new boolean[47], nextOf = new boolean[47], behind255 = new boolean[256];

    void meet(boolean came, String what) {
        if (came) {
            met.add(what);
        }
    }

    boolean has(int part) {
        return (style / part) % 2 == 1;
    }

    void begin(int wide, int high, int band, int style) {
        if (wide < 1 || wide > 64 || high < 1 || high > 64 || band < 0 || band > 3 || style < 0 || style > 63) {
            throw new IllegalArgumentException();
        }
        this.wide = wide;
        this.high = high;
        this.band = band;
        this.style = style;
        coefficient = new int[high][wide];
        written = read = false;
    }

    boolean inside(int x, int y) {
        return 0 <= x && x < wide && 0 <= y && y < high;
    }

    void set(int x, int y, int v) {
        if (!inside(x, y) || v == Integer.MIN_VALUE) {
            throw new IllegalArgumentException();
        }
        coefficient[y][x] = v;
        written = read = false;
    }

    void fill(int a, int b, int c, int shift) {
        if (shift < 0 || shift > 31) {
            throw new IllegalArgumentException();
        }
        for (int y = 0; y < high; y++) {
            for (int x = 0; x < wide; x++) {
                BigInteger v = BigInteger.valueOf((long) a * x).add(BigInteger.valueOf((long) b * y))
                    .add(BigInteger.valueOf((long) c * x * y));
                int w = v.intValue() >> shift;
                coefficient[y][x] = w == Integer.MIN_VALUE ? w + 1 : w;
            }
        }
        written = read = false;
    }

    // ---- neighbours and contexts ----
    boolean counts(int x, int y, int dx, int dy) {
        int nx = x + dx, ny = y + dy;
        if (!inside(nx, ny) || has(8) && ny / 4 > y / 4) {
            return false;
        }
        return significant[ny][nx];
    }

    int one(boolean b) {
        return b ? 1 : 0;
    }

    int h(int x, int y) {
        return one(counts(x, y, -1, 0)) + one(counts(x, y, 1, 0));
    }

    int v(int x, int y) {
        return one(counts(x, y, 0, -1)) + one(counts(x, y, 0, 1));
    }

    int d(int x, int y) {
        return one(counts(x, y, -1, -1)) + one(counts(x, y, 1, -1)) + one(counts(x, y, -1, 1)) + one(counts(x, y, 1, 1));
    }

    int zero(int x, int y) {
        int h = h(x, y), v = v(x, y), d = d(x, y);
        if (band == 3) {
            int s = h + v;
            if (d > 2) return 8;
            if (d == 2) return s > 0 ? 7 : 6;
            if (d == 1) return s > 1 ? 5 : 3 + s;
            return s > 1 ? 2 : s;
        }
        if (band == 1) {
            int t = h;
            h = v;
            v = t;
        }
        if (h == 2) return 8;
        if (h == 1) return v > 0 ? 7 : d > 0 ? 6 : 5;
        if (v == 2) return 4;
        if (v == 1) return 3;
        return d > 1 ? 2 : d;
    }

    int signed(int x, int y, int dx, int dy) {
        return !counts(x, y, dx, dy) ? 0 : minus[y + dy][x + dx] ? -1 : 1;
    }

    int again(int x, int y) {
        if (byPassOne[y][x]) return 16;
        return h(x, y) + v(x, y) + d(x, y) > 0 ? 15 : 14;
    }

    // ---- passes ----
    void fresh() {
        significant = new boolean[high][wide];
        minus = new boolean[high][wide];
        byPassZero = new boolean[high][wide];
        byPassOne = new boolean[high][wide];
        magnitude = new int[high][wide];
        latest = new int[high][wide];
        faults = 0;
        resetContexts();
    }

    void resetContexts() {
        for (int i = 0; i < 19; i++) {
            state[i] = i == 0 ? 4 : i == 17 ? 3 : i == 18 ? 46 : 0;
            likely[i] = 0;
        }
    }

    int kind(int k) {
        return k == 0 ? 2 : (k - 1) % 3;
    }

    int plane(int k) {
        return k == 0 ? planes - 1 : planes - 2 - (k - 1) / 3;
    }

    boolean raw(int k) {
        return has(1) && k >= 10 && kind(k) < 2;
    }

    boolean ends(int k) {
        return k == passes - 1 || has(4) || has(1) && (kind(k) == 2 && k >= 9 || kind(k) == 1 && k >= 10);
    }

    int bitAt(int x, int y, int p) {
        return (int) ((Math.abs((long) coefficient[y][x]) >> p) & 1);
    }

    void sign(int x, int y, int p, boolean raw, Channel out) {
        int a = signed(x, y, -1, 0) + signed(x, y, 1, 0);
        int b = signed(x, y, 0, -1) + signed(x, y, 0, 1);
        a = a == 2 ? 1 : a == -2 ? -1 : a;
        b = b == 2 ? 1 : b == -2 ? -1 : b;
        boolean turned = false;
        if (!raw && (a < 0 || a == 0 && b < 0)) {
            a = -a;
            b = -b;
            turned = true;
        }
        int wanted = coefficient[y][x] < 0 ? 1 : 0;
        int got = out.bit(turned ? 1 - wanted : wanted, 9 + 3 * a + b);
        minus[y][x] = (turned ? 1 - got : got) == 1;
        significant[y][x] = true;
        magnitude[y][x] = 1 << p;
        latest[y][x] = p;
    }

    void one(int x, int y, int p, boolean raw, Channel out) {
        if (out.bit(bitAt(x, y, p), zero(x, y)) == 1) {
            sign(x, y, p, raw, out);
        }
    }

    void goThrough(int kind, int p, boolean raw, Channel out) {
        if (kind == 0) {
            byPassZero = new boolean[high][wide];
        }
        for (int stripe = 0; 4 * stripe < high; stripe++) {
            for (int x = 0; x < wide; x++) {
                int from = 4 * stripe;
                int to = Math.min(from + 4, high);
                if (kind == 2 && to - from == 4) {
                    boolean all = true;
                    for (int y = from; y < to; y++) {
                        all &= !significant[y][x] && !byPassZero[y][x] && zero(x, y) == 0;
                    }
                    if (all) {
                        int ahead = 0;
                        while (ahead < 4 && bitAt(x, from + ahead, p) == 0) {
                            ahead++;
                        }
                        if (out.bit(ahead == 4 ? 0 : 1, 17) == 0) {
                            continue;
                        }
                        int two = out.bit((ahead / 2) % 2, 18);
                        int got = 2 * two + out.bit(ahead % 2, 18);
                        sign(x, from + got, p, raw, out);
                        from = from + got + 1;
                    }
                }
                for (int y = from; y < to; y++) {
                    if (kind == 0 && !significant[y][x] && zero(x, y) != 0) {
                        byPassZero[y][x] = true;
                        one(x, y, p, raw, out);
                    } else if (kind == 1 && significant[y][x] && !byPassZero[y][x]) {
                        int got = out.bit(bitAt(x, y, p), again(x, y));
                        byPassOne[y][x] = true;
                        magnitude[y][x] += got << p;
                        latest[y][x] = p;
                    } else if (kind == 2 && !significant[y][x] && !byPassZero[y][x]) {
                        one(x, y, p, raw, out);
                    }
                }
            }
        }
        if (kind == 2 && has(32)) {
            int b0 = out.bit(1, 18), b1 = out.bit(0, 18), b2 = out.bit(1, 18), b3 = out.bit(0, 18);
            if (b0 != 1 || b1 != 0 || b2 != 1 || b3 != 0) {
                faults++;
            }
        }
    }

    long valueNow(int x, int y) {
        if (!significant[y][x]) {
            return 0;
        }
        long v = magnitude[y][x] + (long) Math.floor(Math.pow(2, latest[y][x]) / 2);
        return minus[y][x] ? -v : v;
    }

    BigInteger lacking() {
        BigInteger all = BigInteger.ZERO;
        for (int y = 0; y < high; y++) {
            for (int x = 0; x < wide; x++) {
                long less = Math.abs((long) coefficient[y][x]) - Math.abs(valueNow(x, y));
                all = all.add(BigInteger.valueOf(less).pow(2));
            }
        }
        return all;
    }

    // ---- bits ----
    final class Coder implements Channel {
        final List<Integer> own = new ArrayList<>();
        long low = 0, size = 32768;
        int room = 12;

        public int bit(int b, int c) {
            int p = STATES[state[c]][0];
            size -= p;
            meet(size == p, b == likely[c] ? "likely bit, SIZE just p" : "other bit, SIZE just p");
            meet(b == likely[c] && size == 32768, "likely bit, SIZE just 32768");
            meet(b == likely[c] && size == 32767, "likely bit, SIZE just below 32768");
            otherIn[state[c]] |= b != likely[c];
            nextOf[state[c]] |= b == likely[c] && size < 32768;
            if (b == likely[c]) {
                if (size >= 32768) {
                    low += p;
                    return b;
                }
                if (size < p) size = p; else low += p;
                state[c] = STATES[state[c]][1];
            } else {
                if (size < p) low += p; else size = p;
                if (state[c] == 0 || state[c] == 6 || state[c] == 14) likely[c] = 1 - likely[c];
                state[c] = STATES[state[c]][2];
            }
            do {
                size *= 2;
                low *= 2;
                room--;
                if (room == 0) out();
            } while (size < 32768);
            return b;
        }

        void out() {
            int n = own.size();
            meet(n > 0 && own.get(n - 1) == 255 && low >= 134217728L, "LOW of 2^27 behind 255");
            meet(n > 0 && own.get(n - 1) == 254 && low >= 134217728L, "carry makes 255");
            meet(n > 0 && own.get(n - 1) < 254 && low >= 134217728L, "carry");
            meet(low == 134217728L, "LOW just 2^27");
            if (n > 0 && own.get(n - 1) != 255 && low >= 134217728L) {
                low -= 134217728L;
                own.set(n - 1, own.get(n - 1) + 1);
            }
            meet(low / (n > 0 && own.get(n - 1) == 255 ? 1048576 : 524288) > 255, "a byte above 255");
            if (n > 0 && own.get(n - 1) == 255) {
                own.add((int) (low / 1048576 % 256));
                low %= 1048576;
                room = 7;
            } else {
                own.add((int) (low / 524288 % 256));
                low %= 524288;
                room = 8;
            }
        }

        void end() {
            if (has(16)) {
                int n = 12 - room;
                int had = own.size();
                while (n > 0) {
                    low *= 1L << room;
                    out();
                    n -= room;
                    meet(n == 0, "way 1 ends with n just 0");
                }
                met.add("way 1, bytes of the end: " + (own.size() - had));
            } else {
                long m = low / 65536 * 65536 + 65535;
                meet(m < low + size, "way 0, m below");
                meet(m >= low + size, "way 0, m not below");
                low = m < low + size ? m : m - 32768;
                for (int i = 0; i < 2; i++) {
                    low *= 1L << room;
                    out();
                }
            }
        }
    }

    /** Raw bits are kept as bits and made to bytes when they are asked for. */
    static final class RawRow implements Channel {
        final StringBuilder bits = new StringBuilder();

        public int bit(int b, int c) {
            bits.append(b);
            return b;
        }

        List<Integer> pack() {
            List<Integer> own = new ArrayList<>();
            int from = 0;
            while (from < bits.length()) {
                boolean behind = !own.isEmpty() && own.get(own.size() - 1) == 255;
                int to = Math.min(bits.length(), from + (behind ? 7 : 8));
                String part = (behind ? "0" : "") + bits.substring(from, to);
                own.add(Integer.parseInt((part + "01010101").substring(0, 8), 2));
                from = to;
            }
            return own;
        }
    }

    int byteFrom(int from, int many, int k) {
        return k < many ? bytes.get(from + k) : 255;
    }

    final class Decoder implements Channel {
        final int from, many;
        long value, size = 32768;
        int room, last = 0;

        Decoder(int from, int many) {
            this.from = from;
            this.many = many;
            value = byteFrom(from, many, 0) * 65536L;
            in();
            value = value * 128 % 4294967296L;
            room -= 7;
        }

        void in() {
            int came = byteFrom(from, many, last), behind = byteFrom(from, many, last + 1);
            behind255[behind] |= came == 255;
            if (came == 255 && behind > 143) {
                value += 65280;
                room = 8;
            } else if (came == 255) {
                last++;
                value += 512L * behind;
                room = 7;
            } else {
                last++;
                value += 256L * behind;
                room = 8;
            }
            meet(value >= 4294967296L, "VALUE went round");
            value %= 4294967296L;
        }

        public int bit(int unused, int c) {
            int p = STATES[state[c]][0];
            int bit;
            size -= p;
            meet(value / 65536 == p, "VALUE / 2^16 just p");
            meet(value / 65536 < p && size == p, "VALUE / 2^16 below p, SIZE just p");
            meet(value / 65536 >= p && size == p, "VALUE / 2^16 not below p, SIZE just p");
            meet(value / 65536 >= p && size == 32768, "reading, SIZE just 32768");
            meet(value / 65536 >= p && size == 32767, "reading, SIZE just below 32768");
            if (value / 65536 < p) {
                bit = size < p ? likely[c] : 1 - likely[c];
                size = p;
            } else {
                value -= p * 65536L;
                if (size >= 32768) {
                    return likely[c];
                }
                bit = size < p ? 1 - likely[c] : likely[c];
            }
            if (bit == likely[c]) {
                state[c] = STATES[state[c]][1];
            } else {
                if (state[c] == 0 || state[c] == 6 || state[c] == 14) likely[c] = 1 - likely[c];
                state[c] = STATES[state[c]][2];
            }
            do {
                if (room == 0) in();
                size *= 2;
                meet(value >= 2147483648L, "VALUE went round");
                value = value * 2 % 4294967296L;
                room--;
            } while (size < 32768);
            return bit;
        }
    }

    final class RawSource implements Channel {
        final int from, many;
        int k = -1, left = 0;

        RawSource(int from, int many) {
            this.from = from;
            this.many = many;
        }

        public int bit(int unused, int c) {
            if (left == 0) {
                k++;
                left = k > 0 && byteFrom(from, many, k - 1) == 255 ? 7 : 8;
            }
            left--;
            return byteFrom(from, many, k) >> left & 1;
        }
    }

    static void dropLast255(List<Integer> own) {
        if (!own.isEmpty() && own.get(own.size() - 1) == 255) {
            own.remove(own.size() - 1);
        }
    }

    // ---- writing ----
    int write() {
        planes = 0;
        for (int[] r : coefficient) {
            for (int c : r) {
                planes = Math.max(planes, c == 0 ? 0 : Long.toBinaryString(Math.abs((long) c)).length());
            }
        }
        passes = planes == 0 ? 0 : 3 * planes - 2;
        bytes = new ArrayList<>();
        segments = new ArrayList<>();
        enough = new long[passes];
        gains = new BigInteger[passes];
        fresh();
        int k = 0;
        while (k < passes) {
            int first = k;
            int place = bytes.size();
            Coder coder = new Coder();
            RawRow row = new RawRow();
            boolean raw = raw(k);
            boolean more = true;
            while (more) {
                BigInteger before = lacking();
                goThrough(kind(k), plane(k), raw, raw ? row : coder);
                gains[k] = before.subtract(lacking());
                enough[k] = place + (raw ? row.pack().size() : coder.own.size() + 5);
                if (has(2)) {
                    resetContexts();
                }
                more = !ends(k);
                k++;
            }
            List<Integer> own;
            if (raw) {
                own = row.pack();
            } else {
                coder.end();
                own = coder.own;
            }
            int had = own.size();
            dropLast255(own);
            meet(own.size() < had, raw ? "raw segment ends with 255" : "coded segment ends with 255");
            bytes.addAll(own);
            segments.add(new int[] {first, k - 1, place, own.size()});
        }
        written = true;
        read = false;
        return passes;
    }

    int[] segmentOf(int k) {
        for (int[] s : segments) {
            if (s[0] <= k && k <= s[1]) {
                return s;
            }
        }
        throw new AssertionError();
    }

    int reach(int k) {
        int[] s = segmentOf(k);
        int all = s[2] + s[3];
        return ends(k) ? all : (int) Math.min(enough[k], all);
    }

    void needWritten() {
        if (!written) {
            throw new IllegalStateException();
        }
    }

    void need(boolean is) {
        if (!is) {
            throw new IndexOutOfBoundsException();
        }
    }

    int written(int w) {
        needWritten();
        if (w < 0 || w > 3) {
            throw new IllegalArgumentException();
        }
        return new int[] {planes, passes, bytes.size(), segments.size()}[w];
    }

    int pass(int k, int w) {
        needWritten();
        need(k >= 0 && k < passes);
        if (w < 0 || w > 4) {
            throw new IllegalArgumentException();
        }
        return new int[] {kind(k), plane(k), one(raw(k)), one(ends(k)), reach(k)}[w];
    }

    long gain(int k) {
        needWritten();
        need(k >= 0 && k < passes);
        return gains[k].longValue();
    }

    int at(int k) {
        needWritten();
        need(k >= 0 && k < bytes.size());
        return bytes.get(k);
    }

    int change(int k, int b) {
        needWritten();
        need(k >= 0 && k < bytes.size());
        read = false;
        return bytes.set(k, Math.floorMod(b, 256));
    }

    int read(int n) {
        needWritten();
        if (n < 0 || n > passes) {
            throw new IllegalArgumentException();
        }
        fresh();
        for (int[] s : segments) {
            if (s[0] >= n) {
                break;
            }
            int many = s[1] < n ? s[3] : reach(n - 1) - s[2];
            Channel in = raw(s[0]) ? new RawSource(s[2], many) : new Decoder(s[2], many);
            for (int k = s[0]; k <= s[1] && k < n; k++) {
                goThrough(kind(k), plane(k), raw(k), in);
                if (has(2)) {
                    resetContexts();
                }
            }
        }
        read = true;
        return faults;
    }

    void needRead(int x, int y) {
        if (!inside(x, y)) {
            throw new IllegalArgumentException();
        }
        if (!read) {
            throw new IllegalStateException();
        }
    }

    int value(int x, int y) {
        needRead(x, y);
        return (int) valueNow(x, y);
    }

    int known(int x, int y) {
        needRead(x, y);
        return magnitude[y][x];
    }

    int sum() {
        if (!read) {
            throw new IllegalStateException();
        }
        int s = 0;
        for (int y = 0; y < high; y++) {
            for (int x = 0; x < wide; x++) {
                s = 31 * s + (int) valueNow(x, y);
            }
        }
        return s;
    }
}
