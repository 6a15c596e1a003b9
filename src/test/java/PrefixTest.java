import java.util.Random;

/**
 * Promises 7, 8, 11 and 12 together, without the model: "The REACH of a pass is how many bytes, from the
 * first one of all on, are enough to read it". So behind each number of passes the values that are read
 * lack just what the gains of those passes leave, and no mark is a fault.
 */
public final class PrefixTest {
    private static final int LONGEST = 10;
    private static int wrong = 0;
    private static int reads = 0;

    private final int wide;
    private final int high;
    private final int band;
    private final int style;
    private final int[] coefficients;

    private PrefixTest(Random chance, int style) {
        wide = 1 + chance.nextInt(LONGEST);
        high = 1 + chance.nextInt(LONGEST);
        band = chance.nextInt(4);
        this.style = style;
        coefficients = new int[wide * high];
        int shift = chance.nextInt(31);
        int oneIn = 1 + chance.nextInt(8);
        for (int i = 0; i < coefficients.length; i++) {
            int v = chance.nextInt() >> shift;
            coefficients[i] = chance.nextInt(oneIn) == 0 ? Math.max(v, -Integer.MAX_VALUE) : 0;
        }
    }

    private PlaneBlocks written() {
        PlaneBlocks x = new PlaneBlocks();
        x.begin(wide, high, band, style);
        for (int i = 0; i < coefficients.length; i++) {
            x.set(i % wide, i / wide, coefficients[i]);
        }
        x.write();
        return x;
    }

    private long lacking(PlaneBlocks x) {
        long all = 0;
        for (int i = 0; i < coefficients.length; i++) {
            long less = Math.abs((long) coefficients[i]) - Math.abs((long) x.value(i % wide, i / wide));
            all += less * less;
        }
        return all;
    }

    private long left(PlaneBlocks x, int passes) {
        long all = 0;
        for (int v : coefficients) {
            all += (long) v * v;
        }
        for (int k = 0; k < passes; k++) {
            all -= x.gain(k);
        }
        return all;
    }

    private void due() {
        int passes = written().written(1);
        for (int n = 0; n <= passes; n++) {
            // A new one each time: an object is used for at most 512 calls.
            PlaneBlocks x = written();
            int faults = x.read(n);
            reads++;
            if (faults != 0 || lacking(x) != left(x, n)) {
                wrong++;
                System.out.println(wide + " by " + high + ", band " + band + ", style " + style + ", " + n + " of "
                    + passes + " passes: " + faults + " faults, lacking " + lacking(x) + ", due is " + left(x, n));
            }
        }
    }

    public static void main(String[] args) {
        Random chance = new Random(7081112);
        for (int round = 0; round < 10; round++) {
            for (int style = 0; style < 64; style++) {
                new PrefixTest(chance, style).due();
            }
        }
        System.out.println(reads + " readings of first passes, " + wrong + " not as due");
        if (wrong != 0 || reads == 0) {
            System.exit(1);
        }
    }
}
