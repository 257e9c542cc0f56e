/** "Terms": the edges of SAMPLES, LAW 0 and LAW 1. All that is due here was worked by hand. */
public final class BoundaryLawsTest {
    public static void main(String[] args) {
        Checks checks = new Checks();
        samplesEndAtTheLeastAndTheGreatest(checks);
        segment0WhilePIsBelow16(checks);
        everySegmentByAStartsAtItsPower(checks);
        theGreatestSegmentByA(checks);
        theLeastAndTheGreatestSampleByA(checks);
        justBelow0And0ItselfByA(checks);
        aSizeOfAtMost32635ByMu(checks);
        everySegmentByMuStartsAtItsPower(checks);
        codesOf0AndBeside0ByMu(checks);
        checks.end();
    }

    private static void dueCodes(Checks checks, int law, int[][] samplesAndCodes) {
        ConferenceBridge bridge = new ConferenceBridge();
        for (int[] row : samplesAndCodes) {
            checks.due("encode(" + law + ", " + row[0] + ")", bridge.encode(law, row[0]), row[1]);
        }
    }

    private static void dueMeanings(Checks checks, int law, int[][] codesAndSamples) {
        ConferenceBridge bridge = new ConferenceBridge();
        for (int[] row : codesAndSamples) {
            checks.due("decode(" + law + ", " + row[0] + ")", bridge.decode(law, row[0]), row[1]);
        }
    }

    private static void samplesEndAtTheLeastAndTheGreatest(Checks checks) {
        checks.begin("SAMPLES are -32768 .. 32767");
        dueCodes(checks, 0, new int[][] {{32766, 170}, {32767, 170}, {32768, 170}, {-32767, 42}, {-32768, 42}, {-32769, 42}});
        // 32124 and -32124 at the greatest gain: the only way to the very ends of the samples.
        ConferenceBridge bridge = new ConferenceBridge();
        bridge.ramp(1, 32767, 0);
        bridge.ramp(3, -32768, 0);
        bridge.gain(1, 1024);
        bridge.gain(3, 1024);
        bridge.mix();
        checks.due("energy(1) of eight times 32767", bridge.energy(1), 8589410312L);
        checks.due("energy(3) of eight times -32768", bridge.energy(3), 8589934592L);
    }

    private static void segment0WhilePIsBelow16(Checks checks) {
        checks.begin("LAW 0: s = 0 when p is below 16");
        dueCodes(checks, 0, new int[][] {{239, 219}, {240, 218}, {255, 218}, {256, 197}, {271, 197}, {272, 196}});
        dueCodes(checks, 0, new int[][] {{-240, 91}, {-241, 90}, {-256, 90}, {-257, 69}, {-272, 69}, {-273, 68}});
        dueMeanings(checks, 0, new int[][] {{218, 248}, {197, 264}, {196, 280}, {90, -248}, {69, -264}, {68, -280}});
    }

    /** From s = 1 on a segment starts at 256 shifted left by s - 1, one code behind m = 15. */
    private static void everySegmentByAStartsAtItsPower(Checks checks) {
        checks.begin("LAW 0: the first and the last sample of each s");
        for (int s = 1; s <= 7; s++) {
            int first = 256 << (s - 1);
            int code = (0x80 + 16 * s) ^ 0x55;
            int codeAhead = (0x80 + 16 * s - 1) ^ 0x55;
            dueCodes(checks, 0, new int[][] {{first, code}, {first - 1, codeAhead}});
            dueCodes(checks, 0, new int[][] {{-first - 1, code - 128}, {-first, codeAhead - 128}});
            dueMeanings(checks, 0, new int[][] {{code, 264 << (s - 1)}, {code - 128, -(264 << (s - 1))}});
        }
    }

    private static void theGreatestSegmentByA(Checks checks) {
        checks.begin("LAW 0: the greatest s");
        dueCodes(checks, 0, new int[][] {{16383, 186}, {16384, 165}, {17407, 165}, {17408, 164}, {31743, 171}, {31744, 170}});
        dueCodes(checks, 0, new int[][] {{-16384, 58}, {-16385, 37}, {-17408, 37}, {-17409, 36}, {-31744, 43}, {-31745, 42}});
        dueMeanings(checks, 0, new int[][] {{186, 16128}, {165, 16896}, {170, 32256}, {58, -16128}, {37, -16896}, {42, -32256}});
    }

    private static void theLeastAndTheGreatestSampleByA(Checks checks) {
        checks.begin("LAW 0: the least and the greatest sample");
        dueCodes(checks, 0, new int[][] {{-32768, 42}, {32767, 170}});
        dueMeanings(checks, 0, new int[][] {{42, -32256}, {170, 32256}});
    }

    private static void justBelow0And0ItselfByA(Checks checks) {
        checks.begin("LAW 0: x just below 0 and 0 itself");
        dueCodes(checks, 0, new int[][] {{0, 213}, {1, 213}, {15, 213}, {16, 212}, {-1, 85}, {-2, 85}, {-16, 85}, {-17, 84}});
        dueMeanings(checks, 0, new int[][] {{213, 8}, {212, 24}, {85, -8}, {84, -24}});
    }

    private static void aSizeOfAtMost32635ByMu(Checks checks) {
        checks.begin("LAW 1: a size of at most 32635");
        dueCodes(checks, 1, new int[][] {{31611, 129}, {31612, 128}, {32635, 128}, {32636, 128}, {32767, 128}});
        dueCodes(checks, 1, new int[][] {{-31611, 1}, {-31612, 0}, {-32635, 0}, {-32636, 0}, {-32767, 0}, {-32768, 0}});
        dueMeanings(checks, 1, new int[][] {{129, 31100}, {128, 32124}, {1, -31100}, {0, -32124}});
    }

    /** From s = 1 on a segment starts where the size and 132 make 128 shifted left by s. */
    private static void everySegmentByMuStartsAtItsPower(Checks checks) {
        checks.begin("LAW 1: the first and the last sample of each s");
        for (int s = 1; s <= 7; s++) {
            int first = (128 << s) - 132;
            int code = 255 - 16 * s;
            dueCodes(checks, 1, new int[][] {{first, code}, {first - 1, code + 1}});
            dueCodes(checks, 1, new int[][] {{-first, code - 128}, {-first + 1, code - 127}});
            dueMeanings(checks, 1, new int[][] {{code, (132 << s) - 132}, {code - 128, 132 - (132 << s)}});
        }
    }

    private static void codesOf0AndBeside0ByMu(Checks checks) {
        checks.begin("LAW 1: the codes of 0 and of the samples beside 0");
        dueCodes(checks, 1, new int[][] {{0, 255}, {1, 255}, {3, 255}, {4, 254}, {-1, 127}, {-3, 127}, {-4, 126}});
        dueMeanings(checks, 1, new int[][] {{255, 0}, {254, 8}, {127, 0}, {126, -8}});
    }
}
