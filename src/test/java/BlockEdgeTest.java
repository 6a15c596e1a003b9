import java.util.Random;

/** The sentences of the document about blocks, neighbours and contexts that name a boundary case. */
public final class BlockEdgeTest extends Sentences {
    private static final String BLOCKS = "promises 2 to 5, Terms, blocks";
    private static final String CONTEXTS = "promise 5, Terms, contexts";

    private static void callsOfAnObject() {
        sentence("promises 1 to 14, What it is", "An object is used for at most 512 calls after it has been made");
        PlaneBlocks x = filled(16, 16, 3, 63, 123456789, -98765432, 13579, 3);
        int passes = x.write();
        for (int call = 4; call < 511; call++) {
            if (call % 2 == 0) {
                x.read(passes);
            } else {
                due("call " + call + ", write()", x.write(), passes);
            }
        }
        due("call 511, read(" + passes + ")", x.read(passes), 0);
        due("call 512, value(15, 15)", x.value(15, 15),
            (123456789 * 15 - 98765432 * 15 + 13579 * 225) >> 3);
        PlaneBlocks refused = new PlaneBlocks();
        for (int call = 1; call < 512; call++) {
            refuses(STATE, "call " + call + ", written(0)", () -> refused.written(0));
        }
        due("call 512, write()", refused.write(), 0);
    }

    private static void sides() {
        sentence(BLOCKS, "A BLOCK is 1 to 64 WIDE and HIGH");
        for (int wide : new int[] {1, 2, 63, 64}) {
            for (int high : new int[] {1, 2, 63, 64}) {
                PlaneBlocks x = new PlaneBlocks();
                x.begin(wide, high, 0, 0);
                x.set(wide - 1, high - 1, -3);
                refusesDeed(ARGUMENT, "set(wide, 0, 1)", () -> x.set(wide, 0, 1));
                refusesDeed(ARGUMENT, "set(0, high, 1)", () -> x.set(0, high, 1));
                readWholly(x);
                due(wide + " wide, " + high + " high: the last coefficient", x.value(wide - 1, high - 1), -3);
                due(wide + " wide, " + high + " high: the sum", x.sum(), -3);
            }
        }
    }

    private static void magnitudes() {
        sentence(BLOCKS, "each a MAGNITUDE of 0 to 2^31 - 1 and a sign");
        for (int v : new int[] {0, 1, -1, 2, -2, 1 << 30, -(1 << 30), (1 << 30) - 1, MOST - 1, -MOST + 1, MOST, -MOST}) {
            for (int style = 0; style < 64; style++) {
                PlaneBlocks x = readWholly(block(2, 1, 0, style, v, -v));
                due("style " + style + ", value of " + v, x.value(0, 0), v);
                due("style " + style + ", value of " + -v, x.value(1, 0), -v);
                due("style " + style + ", known of " + v, x.known(0, 0), Math.abs(v));
            }
        }
    }

    private static void bands() {
        sentence(BLOCKS, "it is of a BAND 0 to 3");
        PlaneBlocks x = new PlaneBlocks();
        for (int band = 0; band <= 3; band++) {
            x.begin(1, 1, band, 0);
            due("write() in band " + band, x.write(), 0);
        }
        refusesDeed(ARGUMENT, "band -1", () -> x.begin(1, 1, -1, 0));
        refusesDeed(ARGUMENT, "band 4", () -> x.begin(1, 1, 4, 0));
    }

    private static void planes() {
        sentence("promises 5 and 6, Terms, blocks", "Its PLANES are as many as the greatest magnitude has binary digits");
        for (int digits = 1; digits <= 31; digits++) {
            int least = 1 << (digits - 1);
            int most = least - 1 + least;
            due("planes of " + least, single(0, least).written(0), digits);
            due("planes of " + most, single(0, most).written(0), digits);
            due("planes of -" + most, single(0, -most).written(0), digits);
            due("planes of -" + most + " between lesser ones", written(3, 1, 0, 0, 1, -most, least).written(0), digits);
        }
        sentence("promises 5 and 6, Terms, blocks", "(0 if all are 0)");
        for (int side = 1; side <= 64; side += 9) {
            PlaneBlocks x = written(side, side, 0, 63);
            due("planes of zeros", x.written(0), 0);
            due("passes of zeros", x.written(1), 0);
            due("bytes of zeros", x.written(2), 0);
            due("segments of zeros", x.written(3), 0);
        }
        sentence("promises 7, 11 and 13, Terms, blocks", "plane p has the bits of weight 2^p");
        int v = 0b1011001;
        PlaneBlocks x = single(0, v);
        for (int plane = 6; plane >= 0; plane--) {
            int passes = 3 * (7 - plane) - 2;
            due("plane of pass " + (passes - 1), x.pass(passes - 1, 1), plane);
            x.read(passes);
            due("known behind plane " + plane, x.known(0, 0), v >> plane << plane);
        }
    }

    private static void stripes() {
        sentence("promise 5, Terms, blocks", "STRIPES are four rows, from row 0 on; the last one may have fewer.");
        bytes("1 row", dotted(1, 1, 0, 0, 0, 1), coded(0, "0:1 9:0"));
        bytes("2 rows", dotted(1, 2, 0, 0, 1, 1), coded(0, "0:0 0:1 9:0"));
        bytes("3 rows", dotted(1, 3, 0, 0, 2, 1), coded(0, "0:0 0:0 0:1 9:0"));
        bytes("4 rows", dotted(1, 4, 0, 0, 3, 1), coded(0, "17:1 18:1 18:1 9:0"));
        bytes("5 rows", dotted(1, 5, 0, 0, 4, 1), coded(0, "17:0 0:1 9:0"));
        bytes("6 rows", dotted(2, 6, 0, 1, 5, -1), coded(0, "17:0 17:0 0:0 0:0 0:0 0:1 9:1"));
        bytes("7 rows", dotted(1, 7, 0, 0, 4, 1), coded(0, "17:0 0:1 9:0 3:0 0:0"));
        bytes("8 rows", dotted(1, 8, 0, 0, 7, 1), coded(0, "17:0 17:1 18:1 18:1 9:0"));
        bytes("63 rows", dotted(1, 63, 0, 0, 62, 1), coded(0, times(15, "17:0"), "0:0 0:0 0:1 9:0"));
        bytes("64 rows", dotted(1, 64, 0, 0, 63, 1), coded(0, times(15, "17:0"), "17:1 18:1 18:1 9:0"));
        bytes("64 columns of 1 row", dotted(64, 1, 0, 63, 0, 1), coded(0, times(63, "0:0"), "0:1 9:0"));
    }

    /** Those that come behind a neighbour that has just become significant are in pass 0 (number 1) too. */
    private static void order() {
        String where = "promises 5 and 8, Terms, blocks";
        sentence(where, "In a pass the stripes are gone through from the first one on");
        dueGains("below the stripe", dotted(1, 8, 0, 0, 3, 2, 0, 4, 1, 0, 5, 1), 2, 0);
        dueGains("above the stripe", dotted(1, 8, 0, 0, 5, 2, 0, 4, 1, 0, 3, 1), 1, 1);
        dueGains("a stripe, then the columns of the next", dotted(2, 8, 0, 1, 2, 2, 1, 3, 1, 0, 4, 1), 2, 0);
        sentence(where, "in each the columns from the left");
        dueGains("to the right", dotted(5, 1, 0, 2, 0, 2, 3, 0, 1, 4, 0, 1), 2, 0);
        dueGains("to the left", dotted(5, 1, 0, 2, 0, 2, 1, 0, 1, 0, 0, 1), 1, 1);
        dueGains("a column, then the next, not row by row", dotted(3, 4, 0, 0, 3, 2, 1, 2, 1, 2, 1, 1), 2, 0);
        sentence(where, "in each column its coefficients downwards");
        dueGains("downwards", dotted(1, 4, 0, 0, 0, 2, 0, 1, 1, 0, 2, 1, 0, 3, 1), 3, 0);
        dueGains("upwards", dotted(1, 4, 0, 0, 3, 2, 0, 2, 1, 0, 1, 1, 0, 0, 1), 1, 2);
    }

    /** How many of the ones of plane 0 came in its pass 0, and in its pass 2. */
    private static void dueGains(String what, PlaneBlocks x, int first, int last) {
        due(what + ": gain(1)", x.gain(1), first);
        due(what + ": gain(3)", x.gain(3), last);
    }

    private static void styles() {
        sentence("promises 2 and 7, Terms, blocks", "STYLE is a sum of 1 BYPASS, 2 RESET, 4 EACH, 8 CAUSAL, 16 PLAIN, 32 MARKS.");
        for (int style = 0; style < 64; style++) {
            Twin twin = new Twin();
            twin.begin(7, 9, style % 4, style);
            twin.fill(-2345678, 3456789, 77777, 14);
            twin.write();
            twin.bytesAndReaches();
            twin.read(twin.model.passes);
            twin.sum();
            alike(twin);
        }
        PlaneBlocks x = new PlaneBlocks();
        refusesDeed(ARGUMENT, "style -1", () -> x.begin(1, 1, 0, -1));
        refusesDeed(ARGUMENT, "style 64", () -> x.begin(1, 1, 0, 64));
    }

    private static void significance() {
        sentence("promises 11 to 13, Terms, blocks",
            "A coefficient is SIGNIFICANT from the first of its bits that is 1 on (the highest one), and has its sign then.");
        PlaneBlocks x = written(3, 1, 0, 0, 8, 0, -5);
        x.read(3);
        due("value of -5 before pass 3", x.value(2, 0), 0);
        due("known of -5 before pass 3", x.known(2, 0), 0);
        x.read(4);
        due("value of -5 behind pass 3", x.value(2, 0), -6);
        due("known of -5 behind pass 3", x.known(2, 0), 4);
        bytes("a bit of 0 behind it is no first one", written(1, 1, 0, 0, 5), coded(0, "0:1 9:0 14:0 16:1"));
    }

    private static void outside() {
        sentence("promises 5 and 8, Terms, blocks", "those outside of the block, and with CAUSAL those below the stripe, are not significant for it");
        dueGains("the right end is not beside the left one below", dotted(3, 2, 0, 2, 0, 2, 0, 1, 1), 0, 1);
        dueGains("the left end is not beside the right one above", dotted(3, 2, 0, 0, 1, 2, 2, 0, 1), 0, 1);
        dueGains("the right end is not beside the left one of the row", dotted(3, 1, 0, 2, 0, 2, 0, 0, 1), 0, 1);
        dueGains("nor across two rows below", dotted(3, 3, 0, 2, 0, 2, 0, 2, 1), 0, 1);
        dueGains("the first row is not below the last one", dotted(1, 3, 0, 0, 2, 2, 0, 0, 1), 0, 1);
        dueGains("nor the last one above the first one", dotted(1, 3, 0, 0, 0, 2, 0, 2, 1), 0, 1);
        dueGains("the last row of 64 is not above the first", dotted(64, 64, 0, 63, 63, 2, 0, 0, 1), 0, 1);
        bytes("corners have nothing around them", dotted(2, 2, 0, 1, 1, 1), coded(0, "0:0 0:0 0:0 0:1 9:0"));
        sentence("promises 2 and 5, Terms, blocks", "those outside of the block");
        PlaneBlocks used = readWholly(filled(8, 8, 0, 0, MOST, -MOST, 99, 0));
        for (int side = 1; side <= 9; side++) {
            used.begin(side, side, 0, 0);
            used.set(side - 1, side / 2, -6);
            used.write();
            PlaneBlocks fresh = dotted(side, side, 0, side - 1, side / 2, -6);
            int[] due = new int[fresh.written(2)];
            for (int k = 0; k < due.length; k++) {
                due[k] = fresh.at(k);
            }
            bytes("a block behind a greater one, side " + side, used, due);
        }
    }

    private static void causal() {
        String words = "with CAUSAL those below the stripe, are not significant for it";
        sentence("promises 5 and 8, Terms, blocks", words);
        for (int style = 0; style <= CAUSAL; style += CAUSAL) {
            for (int x = 0; x < 3; x++) {
                String what = "style " + style + ", one below the stripe at " + x;
                int first = style == 0 ? 1 : 0;
                dueGains(what, dotted(3, 8, style, x, 4, 2, 1, 3, -1), first, 1 - first);
                dueGains(what + ", in the last stripe of one row", dotted(3, 5, style, x, 4, 2, 1, 3, -1), first, 1 - first);
                dueGains(what + ", the other way round", dotted(3, 8, style, x, 3, 2, 1, 4, -1), 1, 0);
                dueGains(what + ", within the stripe", dotted(3, 8, style, x, 6, 2, 1, 5, -1), 1, 0);
            }
        }
        sentence("promise 5, Terms, blocks and passes (runs)", words);
        bytes("a run above one below the stripe", dotted(1, 8, CAUSAL, 0, 4, 2),
            coded(CAUSAL, "17:0 17:1 18:0 18:0 9:0 3:0 0:0 0:0", "3:0", "14:0", "17:0 0:0 0:0"));
        bytes("no run above one that is significant", dotted(1, 8, 0, 0, 4, 2),
            coded(0, "17:0 17:1 18:0 18:0 9:0 3:0 0:0 0:0", "3:0 3:0", "14:0", "0:0 0:0 0:0 0:0 0:0"));
        sentence("promise 5, Terms, blocks and contexts (signs)", words);
        for (int sign = -1; sign <= 1; sign += 2) {
            segment("the sign below the stripe", dotted(1, 8, EACH | RESET | CAUSAL, 0, 4, 2 * sign, 0, 3, 1), 3,
                coded(0, "17:1 18:1 18:1 9:0 0:0 0:0"));
            segment("the sign below", dotted(1, 8, EACH | RESET, 0, 4, 2 * sign, 0, 3, 1), 1,
                coded(0, sign < 0 ? "3:1 10:1 3:0" : "3:1 10:0 3:0"));
        }
        sentence("promise 5, Terms, blocks and contexts (again)", words);
        segment("again above one below the stripe", dotted(1, 8, EACH | RESET | CAUSAL, 0, 3, 3, 0, 4, 3), 2,
            coded(0, "14:1 15:1"));
        segment("again above one", dotted(1, 8, EACH | RESET, 0, 3, 3, 0, 4, 3), 2, coded(0, "15:1 15:1"));
    }

    /** Those around a place, by its sides and corners: left, right, above, below, then the corners. */
    private static final int[][] AROUND = {{-1, 0}, {1, 0}, {0, -1}, {0, 1}, {-1, -1}, {1, -1}, {-1, 1}, {1, 1}};

    /** The zero contexts for d of 0 to 4, by h and v: written out from the document by hand. */
    private static final String[][] SIDES = {
        {"01222", "33333", "44444"},
        {"56666", "77777", "77777"},
        {"88888", "88888", "88888"},
    };
    private static final String[] CROSS = {"03688", "14788", "25788", "25788", "25788"};

    private static int zeroDue(int band, int h, int v, int d) {
        String row = band == 3 ? CROSS[h + v] : band == 1 ? SIDES[v][h] : SIDES[h][v];
        return row.charAt(d) - '0';
    }

    private static int countOf(int pattern, int from, int to) {
        return Integer.bitCount(pattern >> from & (1 << (to - from)) - 1);
    }

    private static void zeroContexts() {
        sentence(CONTEXTS, "ZERO: for the bands 0 and 2: 8 if h is 2; if h is 1: 7 if v is above 0, otherwise 6 if d is above 0, "
            + "otherwise 5; if h is 0: 4 if v is 2, 3 if v is 1, otherwise 2 if d is above 1, otherwise d.");
        zeroContext(0);
        zeroContext(2);
        sentence(CONTEXTS, "For band 1 the same with h and v changed one for the other.");
        zeroContext(1);
        sentence(CONTEXTS, "For band 3, with s being h + v: 8 if d is above 2; if d is 2: 7 if s is above 0, otherwise 6; "
            + "if d is 1: 5 if s is above 1, otherwise 3 + s; if d is 0: 2 if s is above 1, otherwise s.");
        zeroContext(3);
    }

    /** The model knows the contexts by the table above; the class writes what the model writes. */
    private static void zeroContext(int band) {
        DocModel model = new DocModel();
        model.begin(3, 3, band, 0);
        for (int pattern = 0; pattern < 256; pattern++) {
            model.fresh();
            for (int i = 0; i < 8; i++) {
                model.significant[1 + AROUND[i][1]][1 + AROUND[i][0]] = (pattern >> i & 1) == 1;
            }
            due("band " + band + ", the model's context of pattern " + pattern, model.zero(1, 1),
                zeroDue(band, countOf(pattern, 0, 2), countOf(pattern, 2, 4), countOf(pattern, 4, 8)));
        }
        Random chance = new Random(band);
        for (int round = 0; round < 32; round++) {
            Twin twin = new Twin();
            twin.begin(32, 16, band, 0);
            for (int cell = 0; cell < 32; cell++) {
                around(twin, cell, 8, round % 8 * 32 + cell, 2);
                if (chance.nextInt(3) == 0) {
                    twin.set(cell % 8 * 4 + 1, cell / 8 * 4 + 1, 1);
                }
            }
            twin.write();
            twin.bytesAndReaches();
            alike(twin);
        }
    }

    private static void around(Twin twin, int cell, int cells, int pattern, int v) {
        for (int i = 0; i < 8; i++) {
            if ((pattern >> i & 1) == 1) {
                twin.set(cell % cells * 4 + 1 + AROUND[i][0], cell / cells * 4 + 1 + AROUND[i][1], v);
            }
        }
    }

    /** The context of a sign by a + 1 and b + 1, with a minus before it if it is turned. */
    private static final int[][] SIGNS = {{-13, -12, -11}, {-10, 9, 10}, {11, 12, 13}};

    private static void signContexts() {
        sentence(CONTEXTS, "a is the sum of H, b of V, each made 1 if it is 2 and -1 if it is -2");
        DocModel model = new DocModel();
        model.begin(3, 3, 0, 0);
        for (int signs = 0; signs < 81; signs++) {
            model.fresh();
            int[] sign = {signs % 3 - 1, signs / 3 % 3 - 1, signs / 9 % 3 - 1, signs / 27 - 1};
            for (int i = 0; i < 4; i++) {
                model.significant[1 + AROUND[i][1]][1 + AROUND[i][0]] = sign[i] != 0;
                model.minus[1 + AROUND[i][1]][1 + AROUND[i][0]] = sign[i] < 0;
            }
            int a = Integer.signum(sign[0] + sign[1]);
            int b = Integer.signum(sign[2] + sign[3]);
            int[] got = new int[2];
            model.sign(1, 1, 0, false, (bit, context) -> { got[0] = bit; got[1] = context; return bit; });
            due("the model's context of the sign, a " + a + ", b " + b, got[1], Math.abs(SIGNS[a + 1][b + 1]));
            due("whether a " + a + ", b " + b + " turn it", got[0], SIGNS[a + 1][b + 1] < 0 ? 1 : 0);
        }
        signGallery(0);
        sentence(CONTEXTS, "If a is below 0, or a is 0 and b below 0, both are turned, and the sign is written TURNED.");
        bytes("no neighbour", written(1, 1, 0, 0, -1), coded(0, "0:1 9:1"));
        bytes("a is 1", written(2, 1, 0, 0, 1, 1), coded(0, "0:1 9:0 5:1 12:0"));
        bytes("a is -1", written(2, 1, 0, 0, -1, 1), coded(0, "0:1 9:1 5:1 12:1"));
        bytes("a is 0, b is 1", written(1, 2, 0, 0, 1, -1), coded(0, "0:1 9:0 3:1 10:1"));
        bytes("a is 0, b is -1", written(1, 2, 0, 0, -1, -1), coded(0, "0:1 9:1 3:1 10:0"));
        bytes("a is 1, b is -1", written(2, 2, 0, 0, 0, -1, 1, 1), coded(0, "0:0 0:1 9:0 6:1 9:1 7:1 11:0"));
        bytes("a is -1, b is 1", written(2, 2, 0, 0, 0, 1, -1, 1), coded(0, "0:0 0:1 9:1 6:1 9:0 7:1 11:1"));
        signGallery(1);
        sentence(CONTEXTS, "The bit is 1 for minus, and the other one if it is turned.");
        for (int v = -1; v <= 1; v += 2) {
            String bit = v < 0 ? "1" : "0";
            String other = v < 0 ? "0" : "1";
            bytes("beside plus", written(2, 1, 0, 0, 1, v), coded(0, "0:1 9:0 5:1 12:" + bit));
            bytes("beside minus", written(2, 1, 0, 0, -1, v), coded(0, "0:1 9:1 5:1 12:" + other));
        }
        signGallery(2);
    }

    /** All 81 ways in which the four beside, above and below can be plus, minus or neither. */
    private static void signGallery(int seed) {
        Random chance = new Random(seed);
        for (int round = 0; round < 8; round++) {
            Twin twin = new Twin();
            twin.begin(36, 36, seed, 0);
            for (int cell = 0; cell < 81; cell++) {
                int signs = cell;
                for (int i = 0; i < 4; i++) {
                    if (signs % 3 != 1) {
                        twin.set(cell % 9 * 4 + 1 + AROUND[i][0], cell / 9 * 4 + 1 + AROUND[i][1], 2 * (signs % 3) - 2);
                    }
                    signs /= 3;
                }
                twin.set(cell % 9 * 4 + 1, cell / 9 * 4 + 1, chance.nextInt(3) == 0 ? -1 : 1);
            }
            twin.write();
            twin.bytesAndReaches();
            twin.read(twin.model.passes);
            twin.sum();
            alike(twin);
        }
    }

    private static void againContexts() {
        sentence(CONTEXTS, "AGAIN: 16 if a bit of the coefficient was written by a pass 1 before");
        bytes("31 planes of 1", single(0, MOST), coded(0, "0:1 9:0 14:1", times(29, "16:1")));
        bytes("31 planes of 0 behind the first", single(0, 1 << 30), coded(0, "0:1 9:0 14:0", times(29, "16:0")));
        bytes("with a neighbour", written(2, 1, 0, 0, 7, 7), coded(0, "0:1 9:0 5:1 12:0", "15:1 15:1", "16:1 16:1"));
        bytes("with a neighbour that comes later", written(2, 1, 0, 0, 7, 1),
            coded(0, "0:1 9:0 5:0", "5:0 14:1", "5:1 12:0 16:1"));
        sentence(CONTEXTS, "otherwise 15 if any neighbour is significant, else 14");
        bytes("no neighbour", single(0, 3), coded(0, "0:1 9:0 14:1"));
        Random chance = new Random(14);
        for (int round = 0; round < 16; round++) {
            Twin twin = new Twin();
            twin.begin(32, 32, 0, 0);
            for (int cell = 0; cell < 64; cell++) {
                // Each neighbour alone and none are the edges; some other patterns stand between them.
                int pattern = cell % 9 < 8 ? 1 << cell % 9 : chance.nextInt(3) == 0 ? chance.nextInt(256) : 0;
                around(twin, cell, 8, pattern, 4);
                twin.set(cell % 8 * 4 + 1, cell / 8 * 4 + 1, 4 + chance.nextInt(4));
            }
            twin.write();
            twin.bytesAndReaches();
            alike(twin);
        }
    }

    public static void main(String[] args) {
        test(BlockEdgeTest::callsOfAnObject);
        test(BlockEdgeTest::sides);
        test(BlockEdgeTest::magnitudes);
        test(BlockEdgeTest::bands);
        test(BlockEdgeTest::planes);
        test(BlockEdgeTest::stripes);
        test(BlockEdgeTest::order);
        test(BlockEdgeTest::styles);
        test(BlockEdgeTest::significance);
        test(BlockEdgeTest::outside);
        test(BlockEdgeTest::causal);
        test(BlockEdgeTest::zeroContexts);
        test(BlockEdgeTest::signContexts);
        test(BlockEdgeTest::againContexts);
        finish();
    }
}
