/**
 * The bytes of 512 blocks, of all styles and bands, against digests of bytes that another program made
 * too: OpenJPEG 2.5.0, given the same coefficients with the same style, made the same ones, byte for byte
 * (compared once, by hand). So a sentence of the document that was misread in the class and in the model
 * alike would be seen here. That program isn't needed for the test, only the numbers below.
 *
 * The blocks were chosen so that they keep clear of two cases where that program ends a raw segment
 * otherwise than the document, whose words are followed ("In each case a last byte of 255 is taken away
 * at the end."): with PLAIN it has 255, 42 in place of a last 255; without, it takes 255, 127 away too.
 */
public final class OutsideTest {
    // Of each style 0 to 63: how many bytes the blocks have, and the digest of the bytes.
    private static final int[][] DUE = {
        {3991, 1036492336}, {4062, 1461460242}, {3679, -227132113}, {4425, 99145862},
        {4178, -1262793145}, {4207, 661006787}, {4660, -1629407083}, {5522, -1059833645},
        {4747, -1937446090}, {5531, 875454804}, {5259, 278721532}, {5217, 1477537705},
        {5812, 542119344}, {5735, -1181173918}, {6090, -332213678}, {7470, 247725292},
        {3392, -556134213}, {3785, -2130807389}, {3822, 850951504}, {3806, -21272632},
        {3317, 1416332901}, {5498, 1157829504}, {4647, -553023962}, {4885, 1024896812},
        {4995, 1015947540}, {5266, 721104847}, {4408, 712712300}, {5598, -448718383},
        {6103, -149661697}, {6075, 782662224}, {6697, 2107984781}, {6490, -1989976517},
        {3109, 940896160}, {4053, -2040576148}, {3434, -1124729918}, {4455, 962751918},
        {5052, 1370740246}, {4792, 1001553436}, {4375, 132670097}, {5004, 272608958},
        {4668, -1803293254}, {4181, 765982983}, {6201, 644339564}, {5834, 504839626},
        {5579, -1468752821}, {6336, 1124860507}, {5927, -2020602000}, {5518, -480159964},
        {3378, -228676259}, {3891, 1332556517}, {3824, -1938041754}, {4852, 433088181},
        {4341, -1452194955}, {4324, 828699622}, {4790, 561488356}, {4792, -2041275687},
        {4917, -980498691}, {5954, 1719271795}, {5418, -1737494229}, {5274, -1652373215},
        {5816, -1716749335}, {5851, 1388707004}, {4938, 1107303980}, {7675, 2018114994},
    };

    // An object is used for at most 512 calls, so that another one is made for the bytes behind these.
    private static final int ASKED = 400;

    private static int count;
    private static int digest;
    private static int wrong = 0;

    /** Promise 5 and what it rests on under "Terms": a crowded block. */
    static PlaneBlocks crowded(int band, int style) {
        PlaneBlocks x = new PlaneBlocks();
        x.begin(17 + style % 16, 32 - style % 7, band, style);
        x.fill(1123456789 * (style + 1), 987654321 + 7654321 * band, 13579 * (style + band), 18 + style % 3);
        return x;
    }

    /** The same of a block with a few coefficients alone, so that runs are written. */
    static PlaneBlocks sparse(int band, int style) {
        int wide = 32 - style % 5;
        int high = 13 + style % 19;
        PlaneBlocks x = new PlaneBlocks();
        x.begin(wide, high, band, style);
        for (int i = 0; i < 24; i++) {
            int v = (1 << i % 12) + i;
            x.set((7 * i + style) % wide, (11 * i * i + band) % high, i % 3 == 0 ? -v : v);
        }
        return x;
    }

    private static PlaneBlocks written(boolean few, int band, int style) {
        PlaneBlocks x = few ? sparse(band, style) : crowded(band, style);
        x.write();
        return x;
    }

    private static void digest(boolean few, int band, int style) {
        PlaneBlocks x = written(few, band, style);
        int bytes = x.written(2);
        count += bytes;
        for (int k = 0; k < bytes; k++) {
            if (k % ASKED == ASKED - 1) {
                x = written(few, band, style);
            }
            digest = 31 * digest + x.at(k);
        }
    }

    private static void digestAll(int style) {
        count = 0;
        digest = 0;
        for (int band = 0; band < 4; band++) {
            digest(false, band, style);
            digest(true, band, style);
        }
    }

    private static void due(int style) {
        digestAll(style);
        if (count != DUE[style][0] || digest != DUE[style][1]) {
            wrong++;
            System.out.println("style " + style + ": " + count + " bytes with the digest " + digest + ", due are "
                + DUE[style][0] + " with " + DUE[style][1]);
        }
    }

    public static void main(String[] args) {
        for (int style = 0; style < 64; style++) {
            due(style);
        }
        System.out.println(8 * 64 + " blocks, " + wrong + " styles not as due");
        if (wrong != 0 || DUE.length != 64) {
            System.exit(1);
        }
    }
}
