/** Promise 2: what a code means. */
public final class Promise02DecodeTest {
    public static void main(String[] args) {
        Checks checks = new Checks();
        codesWorkedByHand(checks, new ConferenceBridge());
        everyCodeByTheModel(checks, new ConferenceBridge());
        onlyTheLowestEightBitsCount(checks, new ConferenceBridge());
        noSuchLaw(checks, new ConferenceBridge());
        checks.end();
    }

    private static void codesWorkedByHand(Checks checks, ConferenceBridge bridge) {
        int[][] rows = {
            {0, 213, 8}, {0, 85, -8}, {0, 170, 32256}, {0, 42, -32256},
            {0, 0xDA, 248},                     // the last of segment 0: m is 15
            {0, 0xC5, 264}, {0, 0x45, -264},    // the first of segment 1
            {0, 0xF5, 528},                     // the first of segment 2: 264 shifted by 1
            {0, 0, -5504}, {0, 255, 848}, {0, 128, 5504}, {0, 127, -848},
            {1, 255, 0}, {1, 127, 0}, {1, 128, 32124}, {1, 0, -32124},
            {1, 254, 8}, {1, 126, -8}, {1, 240, 120},
            {1, 239, 132}, {1, 111, -132},      // the first of segment 1: 264 less 132
            {1, 223, 396},
        };
        for (int[] row : rows) {
            checks.due("decode(" + row[0] + ", " + row[1] + ")", bridge.decode(row[0], row[1]), row[2]);
        }
    }

    private static void everyCodeByTheModel(Checks checks, ConferenceBridge bridge) {
        for (int law = 0; law < 2; law++) {
            for (int code = 0; code < 256; code++) {
                checks.due("decode(" + law + ", " + code + ")", bridge.decode(law, code), Model.decode(law, code));
            }
        }
    }

    private static void onlyTheLowestEightBitsCount(Checks checks, ConferenceBridge bridge) {
        int[][] sameCodes = {{256, 0}, {-1, 255}, {213 + 512, 213}, {-256, 0}, {-43, 213},
            {Integer.MIN_VALUE, 0}, {Integer.MAX_VALUE, 255}, {0x7FFFFF80, 128}};
        for (int law = 0; law < 2; law++) {
            for (int[] pair : sameCodes) {
                checks.due("decode(" + law + ", " + pair[0] + ")", bridge.decode(law, pair[0]), bridge.decode(law, pair[1]));
            }
        }
    }

    private static void noSuchLaw(Checks checks, ConferenceBridge bridge) {
        for (int law : Checks.NO_LAWS) {
            checks.dueNoSuchElement("decode(" + law + ", 213)", () -> bridge.decode(law, 213));
            checks.dueNoSuchElement("decode(" + law + ", -1)", () -> bridge.decode(law, -1));
        }
    }
}
