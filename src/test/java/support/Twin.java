import java.util.function.LongSupplier;

/** A PlaneBlocks and a DocModel that get the same calls; counts the answers that are not alike. */
final class Twin {
    final PlaneBlocks blocks = new PlaneBlocks();
    final DocModel model = new DocModel();
    long calls = 0;
    int wrong = 0;
    String firstWrong = "";
    private final StringBuilder told = new StringBuilder();

    private static String answer(LongSupplier call) {
        try {
            return Long.toString(call.getAsLong());
        } catch (IllegalStateException | IllegalArgumentException | IndexOutOfBoundsException e) {
            return "throws." + e.getClass().getName();
        }
    }

    private void same(String call, LongSupplier got, LongSupplier due) {
        calls++;
        String is = answer(got);
        String should = answer(due);
        told.append(call).append("; ");
        if (!is.equals(should)) {
            if (wrong == 0) {
                firstWrong = told + " answered " + is + ", due is " + should;
            }
            wrong++;
        }
    }

    void begin(int wide, int high, int band, int style) {
        same("begin(" + wide + ", " + high + ", " + band + ", " + style + ")",
            () -> { blocks.begin(wide, high, band, style); return 0; },
            () -> { model.begin(wide, high, band, style); return 0; });
    }

    void set(int x, int y, int v) {
        same("set(" + x + ", " + y + ", " + v + ")",
            () -> { blocks.set(x, y, v); return 0; }, () -> { model.set(x, y, v); return 0; });
    }

    void fill(int a, int b, int c, int shift) {
        same("fill(" + a + ", " + b + ", " + c + ", " + shift + ")",
            () -> { blocks.fill(a, b, c, shift); return 0; }, () -> { model.fill(a, b, c, shift); return 0; });
    }

    void write() {
        same("write()", () -> blocks.write(), () -> model.write());
    }

    void written(int w) {
        same("written(" + w + ")", () -> blocks.written(w), () -> model.written(w));
    }

    void pass(int k, int w) {
        same("pass(" + k + ", " + w + ")", () -> blocks.pass(k, w), () -> model.pass(k, w));
    }

    void gain(int k) {
        same("gain(" + k + ")", () -> blocks.gain(k), () -> model.gain(k));
    }

    void at(int k) {
        same("at(" + k + ")", () -> blocks.at(k), () -> model.at(k));
    }

    void change(int k, int b) {
        same("change(" + k + ", " + b + ")", () -> blocks.change(k, b), () -> model.change(k, b));
    }

    void read(int n) {
        same("read(" + n + ")", () -> blocks.read(n), () -> model.read(n));
    }

    void value(int x, int y) {
        same("value(" + x + ", " + y + ")", () -> blocks.value(x, y), () -> model.value(x, y));
    }

    void known(int x, int y) {
        same("known(" + x + ", " + y + ")", () -> blocks.known(x, y), () -> model.known(x, y));
    }

    void sum() {
        same("sum()", () -> blocks.sum(), () -> model.sum());
    }

    /** All bytes, and where the passes are in them. */
    void bytesAndReaches() {
        written(2);
        int length = told.length();
        for (int k = 0; k < model.passes; k++) {
            pass(k, 4);
            told.setLength(length);
        }
        for (int k = 0; k < model.bytes.size(); k++) {
            at(k);
            told.setLength(length);
        }
    }

    /** Every answer about what was written, and those that are refused next to them. */
    void allThatWasWritten() {
        for (int w = -1; w <= 4; w++) {
            written(w);
        }
        int length = told.length();
        for (int k = -1; k <= model.passes; k++) {
            for (int w = -1; w <= 5; w++) {
                pass(k, w);
            }
            gain(k);
            told.setLength(length);
        }
        for (int k = -1; k <= model.bytes.size(); k++) {
            at(k);
            told.setLength(length);
        }
    }

    /** Every answer about what was read, and those that are refused next to them. */
    void allThatWasRead() {
        int length = told.length();
        for (int y = -1; y <= model.high; y++) {
            for (int x = -1; x <= model.wide; x++) {
                value(x, y);
                known(x, y);
                told.setLength(length);
            }
        }
        sum();
    }
}
