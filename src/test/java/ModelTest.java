import java.util.Random;
import java.util.function.LongSupplier;

/** Runs of calls on PlaneBlocks and on the plain DocModel, which have to answer alike each time. */
public final class ModelTest {
    private static int wrong = 0;
    private static long calls = 0;
    private static final StringBuilder told = new StringBuilder();

    private static PlaneBlocks blocks;
    private static DocModel model;

    private static String answer(LongSupplier call) {
        try {
            return Long.toString(call.getAsLong());
        } catch (IllegalStateException | IllegalArgumentException | IndexOutOfBoundsException e) {
            return "throws." + e.getClass().getName();
        }
    }

    private static void same(String call, LongSupplier got, LongSupplier due) {
        calls++;
        String is = answer(got);
        String should = answer(due);
        told.append(call).append("; ");
        if (!is.equals(should) && wrong++ < 20) {
            System.out.println(told + " answered " + is + ", due is " + should);
        }
    }

    private static void fresh() {
        blocks = new PlaneBlocks();
        model = new DocModel();
        told.setLength(0);
    }

    private static void begin(int wide, int high, int band, int style) {
        same("begin(" + wide + ", " + high + ", " + band + ", " + style + ")",
            () -> { blocks.begin(wide, high, band, style); return 0; },
            () -> { model.begin(wide, high, band, style); return 0; });
    }

    private static void set(int x, int y, int v) {
        same("set(" + x + ", " + y + ", " + v + ")",
            () -> { blocks.set(x, y, v); return 0; }, () -> { model.set(x, y, v); return 0; });
    }

    private static void fill(int a, int b, int c, int shift) {
        same("fill(" + a + ", " + b + ", " + c + ", " + shift + ")",
            () -> { blocks.fill(a, b, c, shift); return 0; }, () -> { model.fill(a, b, c, shift); return 0; });
    }

    private static void write() {
        same("write()", () -> blocks.write(), () -> model.write());
    }

    private static void written(int w) {
        same("written(" + w + ")", () -> blocks.written(w), () -> model.written(w));
    }

    private static void pass(int k, int w) {
        same("pass(" + k + ", " + w + ")", () -> blocks.pass(k, w), () -> model.pass(k, w));
    }

    private static void gain(int k) {
        same("gain(" + k + ")", () -> blocks.gain(k), () -> model.gain(k));
    }

    private static void at(int k) {
        same("at(" + k + ")", () -> blocks.at(k), () -> model.at(k));
    }

    private static void change(int k, int b) {
        same("change(" + k + ", " + b + ")", () -> blocks.change(k, b), () -> model.change(k, b));
    }

    private static void read(int n) {
        same("read(" + n + ")", () -> blocks.read(n), () -> model.read(n));
    }

    private static void value(int x, int y) {
        same("value(" + x + ", " + y + ")", () -> blocks.value(x, y), () -> model.value(x, y));
    }

    private static void known(int x, int y) {
        same("known(" + x + ", " + y + ")", () -> blocks.known(x, y), () -> model.known(x, y));
    }

    private static void sum() {
        same("sum()", () -> blocks.sum(), () -> model.sum());
    }

    private static void allThatWasWritten() {
        for (int w = -1; w <= 4; w++) {
            written(w);
        }
        int length = told.length();
        for (int k = -1; k <= model.passes; k++) {
            for (int w = -1; w <= 5; w++) {
                pass(k, w);
            }
            gain(k);
            told.setLength(length);
        }
        for (int k = -1; k <= model.bytes.size(); k++) {
            at(k);
            told.setLength(length);
        }
    }

    private static void allThatWasRead() {
        int length = told.length();
        for (int y = -1; y <= model.high; y++) {
            for (int x = -1; x <= model.wide; x++) {
                value(x, y);
                known(x, y);
                told.setLength(length);
            }
        }
        sum();
    }

    private static int side(Random chance, int most) {
        return 1 + chance.nextInt(chance.nextInt(4) == 0 ? most : Math.min(most, 9));
    }

    /** Blocks of all kinds: noise of some depth, few that are not 0, slopes, and the greatest magnitudes. */
    private static void contents(Random chance) {
        int way = chance.nextInt(5);
        if (way == 0) {
            fill(chance.nextInt(), chance.nextInt(), chance.nextInt(), chance.nextInt(32));
            return;
        }
        if (way == 1) {
            fill(chance.nextInt(2000) - 1000, chance.nextInt(2000) - 1000, chance.nextInt(64) - 32, chance.nextInt(12));
            return;
        }
        int shift = chance.nextInt(31);
        int oneIn = way == 2 ? 1 : way == 3 ? 3 : 17;
        for (int y = 0; y < model.high; y++) {
            for (int x = 0; x < model.wide; x++) {
                if (chance.nextInt(oneIn) == 0) {
                    int v = chance.nextInt() >> shift;
                    int w = chance.nextInt(40) == 0 ? Integer.MAX_VALUE - chance.nextInt(2) : v;
                    set(x, y, Math.max(w, -Integer.MAX_VALUE));
                }
            }
        }
    }

    private static void wholeRun(Random chance, int style, int most) {
        fresh();
        begin(side(chance, most), side(chance, most), chance.nextInt(4), style);
        contents(chance);
        write();
        allThatWasWritten();
        read(model.passes);
        allThatWasRead();
        for (int i = 0; i < 4; i++) {
            read(chance.nextInt(model.passes + 3) - 1);
            allThatWasRead();
        }
        for (int i = 0; i < 3 && !model.bytes.isEmpty(); i++) {
            int b = chance.nextInt(3) == 0 ? 255 : chance.nextInt();
            change(chance.nextInt(model.bytes.size()), b);
            sum();
            read(chance.nextBoolean() ? model.passes : chance.nextInt(model.passes + 1));
            allThatWasRead();
        }
        pairBehind255(chance);
        write();
        allThatWasWritten();
    }

    /** A reader of coded bits tells a byte of 143 behind a 255 from one of 144. */
    private static void pairBehind255(Random chance) {
        if (model.bytes.size() < 2) {
            return;
        }
        int k = chance.nextInt(model.bytes.size() - 1);
        change(k, 255);
        for (int b = 142; b <= 145; b++) {
            change(k + 1, b);
            read(model.passes);
            sum();
        }
    }

    private static void anyCall(Random chance) {
        int x = chance.nextInt(model.wide + 2) - 1;
        int y = chance.nextInt(model.high + 2) - 1;
        int k = chance.nextInt(12) - 1;
        switch (chance.nextInt(16)) {
            case 0: begin(chance.nextInt(11), chance.nextInt(11), chance.nextInt(5), chance.nextInt(66) - 1); break;
            case 1: set(x, y, chance.nextInt(9) == 0 ? Integer.MIN_VALUE : chance.nextInt() >> chance.nextInt(32)); break;
            case 2: fill(chance.nextInt(), chance.nextInt(), chance.nextInt(), chance.nextInt(34) - 1); break;
            case 3: case 4: write(); break;
            case 5: written(chance.nextInt(6) - 1); break;
            case 6: pass(k, chance.nextInt(7) - 1); break;
            case 7: gain(k); break;
            case 8: at(k); break;
            case 9: change(k, chance.nextInt(1000) - 500); break;
            case 10: case 11: case 12: read(k); break;
            case 13: value(x, y); break;
            case 14: known(x, y); break;
            default: sum(); break;
        }
    }

    public static void main(String[] args) {
        Random chance = new Random(20261115);
        for (int round = 0; round < 30; round++) {
            for (int style = 0; style < 64; style++) {
                wholeRun(chance, style, 20);
            }
        }
        for (int round = 0; round < 40; round++) {
            wholeRun(chance, chance.nextInt(64), 64);
        }
        for (int round = 0; round < 500; round++) {
            fresh();
            for (int i = 0; i < 120; i++) {
                anyCall(chance);
            }
        }
        System.out.println(calls + " calls, " + wrong + " of them not as due");
        if (wrong != 0) {
            System.exit(1);
        }
    }
}
