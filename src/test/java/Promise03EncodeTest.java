/** Promise 3: the code of a sample. */
public final class Promise03EncodeTest {
    public static void main(String[] args) {
        Checks checks = new Checks();
        codesWorkedByHand(checks, new ConferenceBridge());
        everySampleByTheModel(checks);
        everyMeaningHasItsCode(checks);
        beyondTheGreatestAndLeast(checks, new ConferenceBridge());
        noSuchLaw(checks, new ConferenceBridge());
        checks.end();
    }

    private static void codesWorkedByHand(Checks checks, ConferenceBridge bridge) {
        int[][] rows = {
            {0, 0, 213}, {0, -1, 85}, {0, 15, 213}, {0, 16, 212}, {0, -16, 85}, {0, -17, 84},
            {0, 255, 0xDA}, {0, 256, 0xC5}, {0, -256, 0x5A}, {0, -257, 0x45},
            {0, 511, 0xCA}, {0, 512, 0xF5}, {0, 543, 0xF5}, {0, 544, 0xF4},
            {0, 32767, 170}, {0, -32768, 42},
            {1, 0, 255}, {1, -1, 127}, {1, 3, 255}, {1, 4, 254}, {1, -3, 127}, {1, -4, 126},
            {1, 123, 240}, {1, 124, 239}, {1, -124, 111},
            {1, 32635, 128}, {1, 32636, 128}, {1, 32767, 128}, {1, -32635, 0}, {1, -32768, 0},
            {1, 31611, 129}, {1, 31612, 128},
        };
        for (int[] row : rows) {
            checks.due("encode(" + row[0] + ", " + row[1] + ")", bridge.encode(row[0], row[1]), row[2]);
        }
    }

    /** A new object for each sample: none is promised to answer more than 512 calls. */
    private static void everySampleByTheModel(Checks checks) {
        for (int law = 0; law < 2; law++) {
            for (int sample = -33000; sample <= 33000; sample++) {
                ConferenceBridge bridge = new ConferenceBridge();
                checks.due("encode(" + law + ", " + sample + ")", bridge.encode(law, sample), Model.encode(law, sample));
            }
        }
    }

    private static void everyMeaningHasItsCode(Checks checks) {
        for (int code = 0; code < 256; code++) {
            ConferenceBridge bridge = new ConferenceBridge();
            checks.due("A's code of what " + code + " means", bridge.encode(0, bridge.decode(0, code)), code);
            // mu's 127 means 0 as 255 does, and 0 is not below 0.
            checks.due("mu's code of what " + code + " means", bridge.encode(1, bridge.decode(1, code)), code == 127 ? 255 : code);
        }
    }

    private static void beyondTheGreatestAndLeast(Checks checks, ConferenceBridge bridge) {
        for (int above : new int[] {32768, 65536, 65535, 1 << 20, Integer.MAX_VALUE}) {
            checks.due("encode(0, " + above + ")", bridge.encode(0, above), 170);
            checks.due("encode(1, " + above + ")", bridge.encode(1, above), 128);
        }
        for (int below : new int[] {-32769, -65536, -65537, -(1 << 20), Integer.MIN_VALUE, Integer.MIN_VALUE + 1}) {
            checks.due("encode(0, " + below + ")", bridge.encode(0, below), 42);
            checks.due("encode(1, " + below + ")", bridge.encode(1, below), 0);
        }
    }

    private static void noSuchLaw(Checks checks, ConferenceBridge bridge) {
        for (int law : Checks.NO_LAWS) {
            checks.due("encode(" + law + ", 0)", bridge.encode(law, 0), ConferenceBridge.NONE);
            checks.due("encode(" + law + ", 40000)", bridge.encode(law, 40000), ConferenceBridge.NONE);
        }
    }
}
