import java.util.Random;

/**
 * Runs of calls on PlaneBlocks and on the plain DocModel, which have to answer alike each time. The
 * document leaves free what the calls after an object's 512th answer; they go on as before, and so
 * more of them are compared here than a run may have.
 */
public final class ModelTest {
    private static int wrong = 0;
    private static long calls = 0;
    private static Twin twin;

    private static void end() {
        calls += twin.calls;
        if (twin.wrong != 0 && wrong < 20) {
            System.out.println(twin.firstWrong);
        }
        wrong += twin.wrong;
    }

    private static int side(Random chance, int most) {
        return 1 + chance.nextInt(chance.nextInt(4) == 0 ? most : Math.min(most, 9));
    }

    /** Blocks of all kinds: noise of some depth, few that are not 0, slopes, and the greatest magnitudes. */
    private static void contents(Random chance) {
        int way = chance.nextInt(5);
        if (way == 0) {
            twin.fill(chance.nextInt(), chance.nextInt(), chance.nextInt(), chance.nextInt(32));
            return;
        }
        if (way == 1) {
            twin.fill(chance.nextInt(2000) - 1000, chance.nextInt(2000) - 1000, chance.nextInt(64) - 32, chance.nextInt(12));
            return;
        }
        int shift = chance.nextInt(31);
        int oneIn = way == 2 ? 1 : way == 3 ? 3 : 17;
        for (int y = 0; y < twin.model.high; y++) {
            for (int x = 0; x < twin.model.wide; x++) {
                if (chance.nextInt(oneIn) == 0) {
                    int v = chance.nextInt() >> shift;
                    int w = chance.nextInt(40) == 0 ? Integer.MAX_VALUE - chance.nextInt(2) : v;
                    twin.set(x, y, Math.max(w, -Integer.MAX_VALUE));
                }
            }
        }
    }

    private static void wholeRun(Random chance, int style, int most) {
        twin = new Twin();
        twin.begin(side(chance, most), side(chance, most), chance.nextInt(4), style);
        contents(chance);
        twin.write();
        twin.allThatWasWritten();
        twin.read(twin.model.passes);
        twin.allThatWasRead();
        for (int i = 0; i < 4; i++) {
            twin.read(chance.nextInt(twin.model.passes + 3) - 1);
            twin.allThatWasRead();
        }
        for (int i = 0; i < 3 && !twin.model.bytes.isEmpty(); i++) {
            int b = chance.nextInt(3) == 0 ? 255 : chance.nextInt();
            twin.change(chance.nextInt(twin.model.bytes.size()), b);
            twin.sum();
            twin.read(chance.nextBoolean() ? twin.model.passes : chance.nextInt(twin.model.passes + 1));
            twin.allThatWasRead();
        }
        pairBehind255(chance);
        twin.write();
        twin.allThatWasWritten();
        end();
    }

    /** A reader of coded bits tells a byte of 143 behind a 255 from one of 144. */
    private static void pairBehind255(Random chance) {
        if (twin.model.bytes.size() < 2) {
            return;
        }
        int k = chance.nextInt(twin.model.bytes.size() - 1);
        twin.change(k, 255);
        for (int b = 142; b <= 145; b++) {
            twin.change(k + 1, b);
            twin.read(twin.model.passes);
            twin.sum();
        }
    }

    private static void anyCall(Random chance) {
        int x = chance.nextInt(twin.model.wide + 2) - 1;
        int y = chance.nextInt(twin.model.high + 2) - 1;
        int k = chance.nextInt(12) - 1;
        switch (chance.nextInt(16)) {
            case 0: twin.begin(chance.nextInt(11), chance.nextInt(11), chance.nextInt(5), chance.nextInt(66) - 1); break;
            case 1: twin.set(x, y, chance.nextInt(9) == 0 ? Integer.MIN_VALUE : chance.nextInt() >> chance.nextInt(32)); break;
            case 2: twin.fill(chance.nextInt(), chance.nextInt(), chance.nextInt(), chance.nextInt(34) - 1); break;
            case 3: case 4: twin.write(); break;
            case 5: twin.written(chance.nextInt(6) - 1); break;
            case 6: twin.pass(k, chance.nextInt(7) - 1); break;
            case 7: twin.gain(k); break;
            case 8: twin.at(k); break;
            case 9: twin.change(k, chance.nextInt(1000) - 500); break;
            case 10: case 11: case 12: twin.read(k); break;
            case 13: twin.value(x, y); break;
            case 14: twin.known(x, y); break;
            default: twin.sum(); break;
        }
    }

    public static void main(String[] args) {
        Random chance = new Random(20261115);
        for (int round = 0; round < 30; round++) {
            for (int style = 0; style < 64; style++) {
                wholeRun(chance, style, 20);
            }
        }
        for (int round = 0; round < 40; round++) {
            wholeRun(chance, chance.nextInt(64), 64);
        }
        for (int round = 0; round < 500; round++) {
            twin = new Twin();
            for (int i = 0; i < 120; i++) {
                anyCall(chance);
            }
            end();
        }
        System.out.println(calls + " calls, " + wrong + " of them not as due");
        if (wrong != 0) {
            System.exit(1);
        }
    }
}
