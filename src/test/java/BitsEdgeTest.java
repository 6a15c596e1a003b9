import java.util.Arrays;
import java.util.Random;

/** The sentences of the document about bits and bytes that name a boundary case. */
public final class BitsEdgeTest extends Sentences {
    private static final String BITS = "promise 5, Terms, bits";
    private static final String READER = "promise 11, Terms, bits";
    private static final int MOST_RUNS = 4000;

    /** A small block of noise, of any size, band, style and depth; written and read by both. */
    private static Twin noise(int seed, int style) {
        Random chance = new Random(seed);
        Twin twin = new Twin();
        twin.begin(1 + chance.nextInt(14), 1 + chance.nextInt(14), chance.nextInt(4), style);
        twin.fill(chance.nextInt(), chance.nextInt(), chance.nextInt(), 20 + chance.nextInt(10));
        twin.write();
        twin.bytesAndReaches();
        twin.read(twin.model.passes);
        twin.sum();
        return twin;
    }

    /** Blocks of noise until the case that the sentence names has come often enough. */
    private static void comes(String what, int style) {
        int times = 0;
        for (int seed = 0; seed < MOST_RUNS && times < 3; seed++) {
            Twin twin = noise(seed, style);
            if (twin.model.met.contains(what)) {
                times++;
                alike(twin);
            }
        }
        due("whether the case came: " + what, times > 0 ? 1 : 0, 1);
    }

    private static Twin deep(int... dots) {
        Twin twin = new Twin();
        twin.begin(64, 64, 0, 0);
        twin.fill(LEAST, 0, 0, 0);
        for (int i = 0; i < dots.length; i += 3) {
            twin.set(dots[i], dots[i + 1], dots[i + 2]);
        }
        writeGreat(twin);
        return twin;
    }

    /** Of a great block the last bytes are compared alone, as there are not calls enough for all. */
    private static void writeGreat(Twin twin) {
        twin.write();
        twin.written(2);
        for (int k = Math.max(0, twin.model.bytes.size() - 300); k < twin.model.bytes.size(); k++) {
            twin.at(k);
        }
        twin.read(twin.model.passes);
        twin.sum();
    }

    /** Noise with zeros below it. */
    private static Twin halfNoise(int seed) {
        Random chance = new Random(seed);
        Twin twin = new Twin();
        twin.begin(32, 32, 0, 0);
        twin.fill(chance.nextInt() << 16, chance.nextInt() << 16, chance.nextInt() << 16, 0);
        writeGreat(twin);
        return twin;
    }

    private static void states() {
        sentence(BITS, "A state has a PART, a NEXT state, an OTHER state");
        boolean[] next = new boolean[47];
        boolean[] other = new boolean[47];
        for (int seed = 0; seed < 1200; seed++) {
            Twin twin = noise(seed, seed % 64);
            alike(twin);
            note(twin, next, other);
        }
        for (int seed = 0; seed < 20; seed++) {
            Twin twin = halfNoise(seed);
            alike(twin);
            note(twin, next, other);
        }
        // In this block all bits of a context are alike in the end: its states go to the end of the table.
        Twin even = deep();
        alike(even);
        note(even, next, other);
        for (int plane = 0; plane < 31; plane++) {
            Twin twin = deep(61, 63, 1 << plane, 63, 62, -(MOST - (1 << plane)), 63, 63, -(MOST - (1 << plane) / 2));
            alike(twin);
            note(twin, next, other);
        }
        for (int state = 0; state < 47; state++) {
            due("whether state " + state + " went to its next one", next[state] ? 1 : 0, 1);
            due("whether state " + state + " went to its other one", other[state] ? 1 : 0, 1);
        }
        sentence(BITS, "three of them TURN (0, 6 and 14)");
        for (int bit = 0; bit <= 1; bit++) {
            bytes("state 0 turns", single(0, bit == 1 ? 0b1111111 : 0b1000000), coded(0, "0:1 9:0 14:" + bit, times(5, "16:" + bit)));
        }
        for (int bits = 0; bits < 64; bits++) {
            int v = 0b101000000 | bits;
            String list = "";
            for (int plane = 6; plane >= 0; plane--) {
                list += " 16:" + (v >> plane & 1);
            }
            bytes("again and again " + v, single(0, v), coded(0, "0:1 9:0 14:0", list));
        }
        for (int state : new int[] {0, 6, 14}) {
            due("whether the other bit came in state " + state, other[state] ? 1 : 0, 1);
        }
    }

    private static void note(Twin twin, boolean[] next, boolean[] other) {
        for (int state = 0; state < 47; state++) {
            next[state] |= twin.model.nextOf[state];
            other[state] |= twin.model.otherIn[state];
        }
    }

    private static void coding() {
        sentence(BITS, "LOW is 0, SIZE 32,768, ROOM 12 at its beginning");
        // 0:1 leaves SIZE 1313 * 32 = 42016, LOW 0, ROOM 7; 9:0 then LOW 0, SIZE 22017 * 2, ROOM 6;
        // m is 65535, not below 44034, so LOW is 32767, which is 2097088 with 6 bits more: 3, then 255.
        bytes("the first bits of all", single(0, 1), 3);
        bytes("the first bits of each segment", single(EACH | PLAIN, 3), coded(PLAIN, "0:1 9:0 ;; 14:1 ;"));
        sentence(BITS, "if SIZE is 32,768 or more then, LOW grows by p, and that is all");
        comes("likely bit, SIZE just 32768", 0);
        comes("likely bit, SIZE just below 32768", 0);
        sentence(BITS, "otherwise, if SIZE is below p, SIZE becomes p, if not, LOW grows by p; the state becomes its next");
        comes("likely bit, SIZE just p", 0);
        sentence(BITS, "The other bit: if SIZE is below p, LOW grows by p, if not, SIZE becomes p");
        comes("other bit, SIZE just p", 0);
        sentence(BITS, "Then (if that wasn't all) over and over, until SIZE is 32,768 or more");
        // The other bit in state 45 leaves a SIZE of 1, which is doubled fifteen times.
        Twin twin = deep(63, 63, -(MOST - 1));
        due("whether the other bit came in state 45", twin.model.otherIn[45] ? 1 : 0, 1);
        alike(twin);
    }

    private static void bytesOut() {
        sentence(BITS, "if there is a last byte, it isn't 255, and LOW is 2^27 or more, LOW is 2^27 less, and the last byte 1 more");
        comes("carry", 0);
        comes("carry", PLAIN);
        // Searched for: it comes once in some hundred million bytes.
        int[][] fills = {{1647689089, -780127668, 1632433370, 22}, {1076777447, -461354308, -1729853135, 23},
            {-793177412, -2132246521, -1753367692, 22}, {140278765, 2000466544, -512275755, 21}};
        for (int[] fill : fills) {
            Twin twin = new Twin();
            twin.begin(16, 16, 0, 0);
            twin.fill(fill[0], fill[1], fill[2], fill[3]);
            twin.write();
            twin.bytesAndReaches();
            due("whether LOW was just 2^27", twin.model.met.contains("LOW just 2^27") ? 1 : 0, 1);
            alike(twin);
        }
        sentence(BITS, "it isn't 255");
        comes("LOW of 2^27 behind 255", 0);
        sentence(BITS, "Then, if there is a last byte of 255, a new byte is LOW / 2^20, LOW becomes the rest, ROOM 7");
        comes("carry makes 255", 0);
        bytes("a first byte of 255", single(BYPASS, 31),
            join(coded(0, "0:1 9:0 14:1 16:1 16:1"), new int[] {0b10101010, 255, 127}));
        sentence(BITS, "(The byte is mod 256.)");
        Random chance = new Random(256);
        for (int style = 0; style < 64; style++) {
            PlaneBlocks x = filled(14, 14, style % 4, style, chance.nextInt(), chance.nextInt(), chance.nextInt(), 20);
            x.write();
            int many = x.written(2);
            for (int k = 0; k < many; k++) {
                int b = x.at(k);
                due("style " + style + ", byte " + k + " mod 256", b, Math.floorMod(b, 256));
            }
        }
    }

    private static int[] join(int[] first, int[] second) {
        int[] both = Arrays.copyOf(first, first.length + second.length);
        System.arraycopy(second, 0, both, first.length, second.length);
        return both;
    }

    private static void lastByte() {
        sentence(BITS, "While it is open it has a LAST byte as soon as it has one.");
        // What is written into a later segment changes nothing of the earlier ones.
        for (int style : new int[] {EACH, EACH | PLAIN, EACH | BYPASS}) {
            PlaneBlocks ones = written(3, 3, 0, style, 127, 127, 127, 127, 127, 127, 127, 127, 127);
            PlaneBlocks zeros = written(3, 3, 0, style, 127, 127, 96, 127, 127, 96, 127, 96, 96);
            int same = ones.pass(2, 4);
            due("style " + style + ", bytes of the passes alike", zeros.pass(2, 4), same);
            for (int k = 0; k < same; k++) {
                due("style " + style + ", byte " + k, zeros.at(k), ones.at(k));
            }
        }
        segment("a segment without bytes has none at its end", single(EACH | PLAIN, 2), 1);
    }

    private static void codedEnds() {
        sentence(BITS, "LOW becomes m, less 32,768 if m is not below the old LOW + SIZE");
        comes("way 0, m below", EACH);
        comes("way 0, m not below", EACH);
        segment("no bits: m is not below", single(EACH, 2), 1, 255, 127);
        sentence(BITS, "as long as n is above 0: LOW is multiplied by 2^ROOM, a byte is out, n is ROOM less (the new one)");
        comes("way 1, bytes of the end: 0", PLAIN | EACH);
        comes("way 1, bytes of the end: 1", PLAIN | EACH);
        comes("way 1, bytes of the end: 2", PLAIN | EACH);
        comes("way 1 ends with n just 0", PLAIN | EACH);
        segment("no bits: n is 0", single(EACH | PLAIN, 2), 1);
        sentence(BITS + " (coded)", "In each case a last byte of 255 is taken away at the end.");
        comes("coded segment ends with 255", EACH);
        comes("coded segment ends with 255", EACH | PLAIN);
        bytes("3 and 255", single(0, 1), 3);
    }

    /** A row of 16 and more in five planes: its lowest bits alone are the raw segment of pass 11. */
    private static PlaneBlocks rawBits(String bits) {
        int[] row = new int[bits.length()];
        for (int i = 0; i < row.length; i++) {
            row[i] = 30 + bits.charAt(i) - '0';
        }
        return written(row.length, 1, 0, BYPASS | PLAIN, row);
    }

    private static void dueRaw(String bits, int... want) {
        PlaneBlocks x = rawBits(bits);
        segment("raw bits " + bits, x, 11, want);
        x.read(13);
        for (int i = 0; i < bits.length(); i++) {
            due("raw bits " + bits + ", bit " + i + " read again", x.value(i, 0), 30 + bits.charAt(i) - '0');
        }
    }

    private static void rawBytes() {
        sentence(BITS, "RAW: bits fill bytes from the highest bit on");
        dueRaw("10000000", 0b10000000);
        dueRaw("00000001", 0b00000001);
        dueRaw("0000000110000000", 0b00000001, 0b10000000);
        sentence(BITS, "a byte behind a 255 of the segment has 0 as highest bit and seven others");
        dueRaw("111111110", 255, 0b00010101);
        dueRaw("111111111", 255, 0b01010101);
        dueRaw("111111110000000", 255, 0);
        dueRaw("1".repeat(15), 255, 127);
        dueRaw("1".repeat(15) + "1", 255, 127, 0b10101010);
        dueRaw("1".repeat(15) + "01111111", 255, 127, 0b01111111);
        dueRaw("1".repeat(24), 255, 127, 255, 0b01010101);
        dueRaw("11111110" + "1".repeat(7) + "0", 0b11111110, 0b11111110);
        sentence(BITS, "It ends, if its last byte isn't full: that is filled with 0, 1, 0, 1, ..");
        dueRaw("1", 0b10101010);
        dueRaw("0", 0b00101010);
        dueRaw("11", 0b11010101);
        dueRaw("111", 0b11101010);
        dueRaw("1111", 0b11110101);
        dueRaw("11111", 0b11111010);
        dueRaw("111111", 0b11111101);
        dueRaw("1111111", 0b11111110);
        dueRaw("01111111", 0b01111111);
        dueRaw("011111110", 0b01111111, 0b00101010);
        dueRaw("11111111" + "111111", 255, 0b01111110);
        segment("no raw bit at all", single(BYPASS | EACH, 16), 10);
        sentence(BITS + " (raw)", "In each case a last byte of 255 is taken away at the end.");
        dueRaw("11111111");
        dueRaw("0000000011111111", 0);
        dueRaw("1".repeat(23), 255, 127);
    }

    private static void readerBehindTheEnd() {
        sentence(READER, "behind them it finds bytes 255 without end");
        dueRaw("11111111");
        Twin coded = new Twin();
        coded.begin(16, 16, 0, PLAIN);
        coded.fill(1234567, -7654321, 7777777, 22);
        coded.write();
        // All bytes of one segment are made 255 or 0 from a place on: the reader runs far past its end.
        for (int from = coded.model.bytes.size() - 1; from >= 0 && coded.calls < 480; from -= 9) {
            coded.change(from, 0);
            coded.change(Math.max(0, from - 1), 0);
            coded.read(coded.model.passes);
            coded.sum();
        }
        alike(coded);
        for (int v = 0; v < 64; v++) {
            // With 0 in the first segment more become significant, and the raw ones have too few bytes.
            Twin raw = new Twin();
            raw.begin(6, 6, 0, BYPASS);
            raw.set(v % 6, v / 11, 16 + v % 16);
            raw.set(5, 5, -v % 32);
            raw.write();
            raw.change(0, v * 4);
            raw.change(1, v * 37);
            raw.read(raw.model.passes);
            raw.allThatWasRead();
            alike(raw);
        }
    }

    private static void readerOfRaw() {
        sentence(READER, "(of a byte behind a 255 the highest bit is passed over, whatever it is)");
        PlaneBlocks x = rawBits("1".repeat(15));
        int second = x.pass(11, 4) - 1;
        for (int b = 0; b < 256; b++) {
            x = b % 64 == 0 ? rawBits("1".repeat(15)) : x;
            x.change(second, b);
            x.read(13);
            due("the last of them, the second byte being " + b, x.value(14, 0), 30 + b % 2);
            due("the ninth of them, the second byte being " + b, x.value(8, 0), 30 + b / 64 % 2);
        }
    }

    private static void readerOfCoded() {
        sentence(READER, "if the byte that came last (b0 at first) is 255 and the one behind it is above 143");
        boolean[] behind = new boolean[256];
        for (int place = 0; place < 6; place++) {
            for (int b = 0; b < 256; b++) {
                Twin twin = new Twin();
                twin.begin(7, 7, b % 4, 0);
                twin.fill(1234567, -7654321, 7777777, 24);
                twin.write();
                twin.change(place, 255);
                twin.change(place + 1, b);
                twin.read(twin.model.passes);
                twin.allThatWasRead();
                alike(twin);
                for (int i = 0; i < 256; i++) {
                    behind[i] |= twin.model.behind255[i];
                }
            }
        }
        for (int b = 0; b < 256; b++) {
            due("whether " + b + " came behind 255", behind[b] ? 1 : 0, 1);
        }
        sentence(READER, "VALUE (which goes round at 2^32)");
        int round = 0;
        for (int b = 100; b < 144; b++) {
            Twin twin = new Twin();
            twin.begin(8, 8, 0, 0);
            twin.fill(1234567, -7654321, 7777777, 18);
            twin.write();
            twin.change(0, 255);
            twin.change(1, b);
            twin.read(twin.model.passes);
            twin.allThatWasRead();
            alike(twin);
            round += twin.model.met.contains("VALUE went round") ? 1 : 0;
        }
        due("whether it went round", round > 0 ? 1 : 0, 1);
        sentence(READER, "If VALUE / 2^16 is below p: it is the likely bit if SIZE is below p, else the other one; SIZE becomes p.");
        comes("VALUE / 2^16 just p", 0);
        comes("VALUE / 2^16 below p, SIZE just p", 0);
        sentence(READER, "if SIZE is 32,768 or more the bit is the likely one, and that is all; if not, it is the other one if SIZE is below p, else the likely one");
        comes("reading, SIZE just 32768", 0);
        comes("reading, SIZE just below 32768", 0);
        comes("VALUE / 2^16 not below p, SIZE just p", 0);
        sentence(READER, "Then over and over, until SIZE is 32,768 or more: if ROOM is 0, a byte comes in");
        Twin twin = deep(63, 63, -(MOST - 1));
        due("the last of all, read in state 45", twin.blocks.value(63, 63), -(MOST - 1));
        alike(twin);
    }

    public static void main(String[] args) {
        test(BitsEdgeTest::states);
        test(BitsEdgeTest::coding);
        test(BitsEdgeTest::bytesOut);
        test(BitsEdgeTest::lastByte);
        test(BitsEdgeTest::codedEnds);
        test(BitsEdgeTest::rawBytes);
        test(BitsEdgeTest::readerBehindTheEnd);
        test(BitsEdgeTest::readerOfRaw);
        test(BitsEdgeTest::readerOfCoded);
        finish();
    }
}
