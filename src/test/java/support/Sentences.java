import java.util.ArrayList;
import java.util.List;

/**
 * What the tests of single sentences share: each test begins with the promise and the words of the
 * document that it holds to, and each answer that is not due is told together with them.
 */
class Sentences {
    static final int LEAST = Integer.MIN_VALUE;
    static final int MOST = Integer.MAX_VALUE;
    static final String STATE = "IllegalStateException";
    static final String ARGUMENT = "IllegalArgumentException";
    static final String INDEX = "IndexOutOfBoundsException";

    static final int BYPASS = 1;
    static final int RESET = 2;
    static final int EACH = 4;
    static final int CAUSAL = 8;
    static final int PLAIN = 16;
    static final int MARKS = 32;

    private static String where = "";
    private static String words = "";
    private static int sentences = 0;
    private static int wrong = 0;

    interface Call {
        long answer();
    }

    interface Deed {
        void act();
    }

    /** What follows holds to these words; where names the promise that shows it and the part they stand in. */
    static void sentence(String where, String words) {
        Sentences.where = where;
        Sentences.words = words;
        sentences++;
    }

    /** A test that is cut short by an exception has broken the sentence that it was about. */
    static void test(Deed deed) {
        try {
            deed.act();
        } catch (RuntimeException e) {
            broken("a call threw " + e);
        }
    }

    static void broken(String what) {
        wrong++;
        System.out.println(where + ", \"" + words + "\": " + what);
    }

    static void due(String what, long got, long want) {
        if (got != want) {
            broken(what + " answered " + got + ", due is " + want);
        }
    }

    static void refuses(String name, String what, Call call) {
        String got = outcome(call);
        if (!got.equals("throws." + name)) {
            broken(what + " gave " + got + ", due is throws." + name);
        }
    }

    static void refusesDeed(String name, String what, Deed deed) {
        refuses(name, what, () -> { deed.act(); return 0; });
    }

    static String outcome(Call call) {
        try {
            return Long.toString(call.answer());
        } catch (RuntimeException e) {
            return "throws." + e.getClass().getSimpleName();
        }
    }

    static void alike(Twin twin) {
        if (twin.wrong != 0) {
            broken(twin.firstWrong);
        }
        // What comes behind the 512th call is free, so that a test that needs it would prove nothing.
        if (twin.calls > 512) {
            broken("the test makes " + twin.calls + " calls on one object");
        }
    }

    static void finish() {
        System.out.println(sentences + " tests of sentences, " + wrong + " answers not as due");
        if (wrong != 0) {
            System.exit(1);
        }
    }

    /** A block that has been begun and whose coefficients are told row by row. */
    static PlaneBlocks block(int wide, int high, int band, int style, int... coefficients) {
        PlaneBlocks x = new PlaneBlocks();
        x.begin(wide, high, band, style);
        for (int i = 0; i < coefficients.length; i++) {
            if (coefficients[i] != 0) {
                x.set(i % wide, i / wide, coefficients[i]);
            }
        }
        return x;
    }

    static PlaneBlocks written(int wide, int high, int band, int style, int... coefficients) {
        PlaneBlocks x = block(wide, high, band, style, coefficients);
        x.write();
        return x;
    }

    /** A written block of zeros but for those told as x, y and v. */
    static PlaneBlocks dotted(int wide, int high, int style, int... dots) {
        PlaneBlocks b = new PlaneBlocks();
        b.begin(wide, high, 0, style);
        for (int i = 0; i < dots.length; i += 3) {
            b.set(dots[i], dots[i + 1], dots[i + 2]);
        }
        b.write();
        return b;
    }

    static PlaneBlocks single(int style, int v) {
        return written(1, 1, 0, style, v);
    }

    static PlaneBlocks filled(int wide, int high, int band, int style, int... fill) {
        PlaneBlocks x = new PlaneBlocks();
        x.begin(wide, high, band, style);
        x.fill(fill[0], fill[1], fill[2], fill[3]);
        return x;
    }

    static PlaneBlocks readWholly(PlaneBlocks x) {
        x.read(x.write());
        return x;
    }

    static void bytes(String what, PlaneBlocks x, int... want) {
        bytesFrom(what, x, 0, x.written(2), want);
    }

    /** The bytes of the segment that pass k ends. */
    static void segment(String what, PlaneBlocks x, int k, int... want) {
        bytesFrom(what + ", segment of pass " + k, x, segmentStart(x, k), x.pass(k, 4), want);
    }

    static int segmentStart(PlaneBlocks x, int k) {
        int first = k;
        while (first > 0 && x.pass(first - 1, 3) == 0) {
            first--;
        }
        return first == 0 ? 0 : x.pass(first - 1, 4);
    }

    private static void bytesFrom(String what, PlaneBlocks x, int from, int to, int... want) {
        List<Integer> got = new ArrayList<>();
        for (int k = from; k < to; k++) {
            got.add(x.at(k));
        }
        List<Integer> wanted = new ArrayList<>();
        for (int b : want) {
            wanted.add(b);
        }
        if (!got.equals(wanted)) {
            broken(what + " has the bytes " + got + ", due are " + wanted);
        }
    }

    /**
     * The bytes of coded segments, their bits told as context:bit behind one another; "/" puts the
     * contexts back to what they are at first, ";" ends a segment and begins another one.
     */
    static int[] coded(int style, String... bits) {
        DocModel model = new DocModel();
        model.style = style;
        model.resetContexts();
        List<Integer> all = new ArrayList<>();
        for (String segment : String.join(" ", bits).split(";", -1)) {
            DocModel.Coder coder = model.new Coder();
            for (String token : segment.trim().split("\\s+")) {
                if (token.equals("/")) {
                    model.resetContexts();
                } else if (!token.isEmpty()) {
                    String[] parts = token.split(":");
                    coder.bit(Integer.parseInt(parts[1]), Integer.parseInt(parts[0]));
                }
            }
            coder.end();
            DocModel.dropLast255(coder.own);
            all.addAll(coder.own);
        }
        return all.stream().mapToInt(Integer::intValue).toArray();
    }

    static String times(int n, String bits) {
        return (bits + " ").repeat(n);
    }

    static void turnInto(PlaneBlocks x, int from, int... bytes) {
        for (int i = 0; i < bytes.length; i++) {
            x.change(from + i, bytes[i]);
        }
    }
}
