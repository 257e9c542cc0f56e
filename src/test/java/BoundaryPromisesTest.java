/** The edges of each promise and the calls that it refuses. What is due was worked by hand. */
public final class BoundaryPromisesTest {
    private static final int MOST = Integer.MAX_VALUE;
    private static final int LEAST = Integer.MIN_VALUE;

    public static void main(String[] args) {
        Checks checks = new Checks();
        eachCallFirstOnANewObject(checks);
        eachRefusedCallFirstOnANewObject(checks);
        decodeTakesTheLowestEightBits(checks);
        decodeThrowsForNoSuchLaw(checks);
        encodeBeyondTheGreatestAndTheLeast(checks);
        encodeAnswersNoneForNoSuchLaw(checks);
        whatCameStaysAsCodesWhenTheLawChanges(checks);
        lawRefuses(checks);
        gains0And1024(checks);
        gainRefuses(checks);
        mutedAndNotMutedAgain(checks);
        muteRefuses(checks);
        speakers1And8(checks);
        speakersRefuses(checks);
        putTakesTheLowestEightBits(checks);
        putRefuses(checks);
        rampBeyondTheRangeOfAnInt(checks);
        rampSaturatesEach(checks);
        rampRefuses(checks);
        mixWithNoPartyThatSpeaks(checks);
        mixWithAllEight(checks);
        outAheadOfTheFirstMixing(checks);
        outAnswersNone(checks);
        energyAheadOfTheFirstMixing(checks);
        energyOfTheLatestMixing(checks);
        energyThrowsForNoSuchParty(checks);
        checks.end();
    }

    /** No party as it was at first, and some changed since the latest mixing. */
    private static ConferenceBridge inUse() {
        ConferenceBridge bridge = new ConferenceBridge();
        bridge.speakers(4);
        bridge.law(2, 1);
        bridge.law(5, 0);
        for (int party = 0; party < 8; party++) {
            bridge.ramp(party, 3000 - 900 * party, 41 + party);
            bridge.gain(party, 200 + 30 * party);
        }
        bridge.mute(7, true);
        bridge.mix();
        bridge.put(0, 3, 17);
        bridge.put(5, 0, 99);
        bridge.law(4, 1);
        bridge.mute(6, true);
        return bridge;
    }

    /** Only party 1 can be heard: all others are muted. */
    private static ConferenceBridge onlyParty1() {
        ConferenceBridge bridge = new ConferenceBridge();
        for (int party = 0; party < 8; party++) {
            bridge.mute(party, party != 1);
        }
        return bridge;
    }

    private static ConferenceBridge fresh() {
        return new ConferenceBridge();
    }

    private static void eachCallFirstOnANewObject(Checks checks) {
        checks.begin("Promise 1: each call first on a new object");
        checks.due("decode(0, 213)", fresh().decode(0, 213), 8);
        checks.due("decode(1, 255)", fresh().decode(1, 255), 0);
        checks.due("encode(0, 0)", fresh().encode(0, 0), 213);
        checks.due("encode(1, 0)", fresh().encode(1, 0), 255);
        checks.due("law(0, 1)", fresh().law(0, 1), true);
        checks.due("gain(7, 0)", fresh().gain(7, 0), true);
        checks.due("mute(0, false)", fresh().mute(0, false), true);
        checks.due("mute(7, true)", fresh().mute(7, true), true);
        checks.due("speakers(8)", fresh().speakers(8), true);
        checks.due("put(7, 7, 0)", fresh().put(7, 7, 0), true);
        checks.due("ramp(0, 0, 0)", fresh().ramp(0, 0, 0), true);
        checks.due("mix()", fresh().mix(), 21);
        for (int party = 0; party < 8; party++) {
            for (int k = 0; k < 8; k++) {
                checks.due("out(" + party + ", " + k + ")", fresh().out(party, k), party % 2 == 0 ? 213 : 255);
            }
            checks.due("energy(" + party + ")", fresh().energy(party), 0);
        }
    }

    private static void eachRefusedCallFirstOnANewObject(Checks checks) {
        checks.begin("Promise 1: each refused call first on a new object");
        checks.dueNoSuchElement("decode(2, 0)", () -> fresh().decode(2, 0));
        checks.due("encode(2, 0)", fresh().encode(2, 0), -1);
        checks.due("law(8, 0)", fresh().law(8, 0), false);
        checks.due("law(0, 2)", fresh().law(0, 2), false);
        checks.due("gain(8, 0)", fresh().gain(8, 0), false);
        checks.due("gain(0, 1025)", fresh().gain(0, 1025), false);
        checks.due("mute(8, true)", fresh().mute(8, true), false);
        checks.due("speakers(0)", fresh().speakers(0), false);
        checks.due("put(8, 0, 0)", fresh().put(8, 0, 0), false);
        checks.due("put(0, 8, 0)", fresh().put(0, 8, 0), false);
        checks.due("ramp(8, 0, 0)", fresh().ramp(8, 0, 0), false);
        checks.due("out(8, 0)", fresh().out(8, 0), -1);
        checks.due("out(0, 8)", fresh().out(0, 8), -1);
        checks.dueNoSuchElement("energy(8)", () -> fresh().energy(8));
    }

    private static void decodeTakesTheLowestEightBits(Checks checks) {
        checks.begin("Promise 2: a code's lowest eight bits");
        int[][] codesAndSamples = {
            {256, -5504, -32124}, {-256, -5504, -32124}, {LEAST, -5504, -32124},
            {511, 848, 0}, {-1, 848, 0}, {MOST, 848, 0},
            {384, 5504, 32124}, {-128, 5504, 32124}, {0x7FFFFF80, 5504, 32124},
            {256 + 213, 8, 716}, {-43, 8, 716}, {65536 + 85, -8, -716}, {-171, -8, -716},
        };
        ConferenceBridge bridge = new ConferenceBridge();
        for (int[] row : codesAndSamples) {
            checks.due("decode(0, " + row[0] + ")", bridge.decode(0, row[0]), row[1]);
            checks.due("decode(1, " + row[0] + ")", bridge.decode(1, row[0]), row[2]);
        }
        for (int code = 0; code < 256; code++) {
            for (int law = 0; law < 2; law++) {
                long sample = Model.decode(law, code);
                checks.due("decode(" + law + ", " + (code - 256) + ")", fresh().decode(law, code - 256), sample);
                checks.due("decode(" + law + ", " + (code + 256) + ")", fresh().decode(law, code + 256), sample);
            }
        }
    }

    private static void decodeThrowsForNoSuchLaw(Checks checks) {
        checks.begin("Promise 2: NoSuchElementException for no such law");
        ConferenceBridge bridge = inUse();
        for (int law : Checks.NO_LAWS) {
            for (int code : new int[] {0, 213, 255, 256, -1, LEAST, MOST}) {
                checks.dueNoSuchElement("decode(" + law + ", " + code + ")", () -> bridge.decode(law, code));
            }
        }
        checks.dueSame(bridge, inUse());
    }

    private static void encodeBeyondTheGreatestAndTheLeast(Checks checks) {
        checks.begin("Promise 3: samples beyond the greatest and the least");
        ConferenceBridge bridge = new ConferenceBridge();
        for (int above : new int[] {32768, 32769, 65535, 65536, 65537, 1 << 24, MOST - 1, MOST}) {
            checks.due("encode(0, " + above + ")", bridge.encode(0, above), 170);
            checks.due("encode(1, " + above + ")", bridge.encode(1, above), 128);
        }
        for (int below : new int[] {-32769, -32770, -65535, -65536, -65537, -(1 << 24), LEAST + 1, LEAST}) {
            checks.due("encode(0, " + below + ")", bridge.encode(0, below), 42);
            checks.due("encode(1, " + below + ")", bridge.encode(1, below), 0);
        }
    }

    private static void encodeAnswersNoneForNoSuchLaw(Checks checks) {
        checks.begin("Promise 3: NONE for no such law");
        ConferenceBridge bridge = inUse();
        for (int law : Checks.NO_LAWS) {
            for (int sample : new int[] {0, -1, 32767, -32768, 32768, -32769, LEAST, MOST}) {
                checks.due("encode(" + law + ", " + sample + ")", bridge.encode(law, sample), -1);
            }
        }
        checks.dueSame(bridge, inUse());
    }

    /** 206, mu's code of 1000, means 988 by mu and 440 by A; A's code of 440 is 206 again. */
    private static void whatCameStaysAsCodesWhenTheLawChanges(Checks checks) {
        checks.begin("Promise 4: what came stays as codes");
        ConferenceBridge bridge = onlyParty1();
        bridge.ramp(1, 1000, 0);
        checks.due("law(1, 0)", bridge.law(1, 0), true);
        bridge.mix();
        checks.due("energy(1) by A", bridge.energy(1), 8L * 440 * 440);
        checks.dueOutThroughout(bridge, 0, 206);
        checks.due("law(1, 0) again", bridge.law(1, 0), true);
        checks.due("law(1, 1)", bridge.law(1, 1), true);
        bridge.mix();
        checks.due("energy(1) by mu again", bridge.energy(1), 8L * 988 * 988);
        checks.dueOutThroughout(bridge, 7, 206);
    }

    private static void lawRefuses(Checks checks) {
        checks.begin("Promise 4: no such party or law");
        ConferenceBridge bridge = inUse();
        for (int party : Checks.NO_PARTIES) {
            checks.due("law(" + party + ", 0)", bridge.law(party, 0), false);
            checks.due("law(" + party + ", 1)", bridge.law(party, 1), false);
            checks.due("law(" + party + ", 2)", bridge.law(party, 2), false);
        }
        for (int law : Checks.NO_LAWS) {
            for (int party = 0; party < 8; party++) {
                checks.due("law(" + party + ", " + law + ")", bridge.law(party, law), false);
            }
        }
        checks.dueSame(bridge, inUse());
    }

    /** mu's code of -1000 means -988. */
    private static void gains0And1024(Checks checks) {
        checks.begin("Promise 5: the gains 0 and 1024");
        ConferenceBridge bridge = onlyParty1();
        bridge.ramp(1, -1000, 0);
        checks.due("gain(1, 0)", bridge.gain(1, 0), true);
        checks.due("mix() at gain 0", bridge.mix(), 0);
        checks.due("energy(1) at gain 0", bridge.energy(1), 0);
        checks.due("gain(1, 1024)", bridge.gain(1, 1024), true);
        checks.due("mix() at gain 1024", bridge.mix(), 2);
        checks.due("energy(1) at gain 1024", bridge.energy(1), 8L * 3952 * 3952);
    }

    private static void gainRefuses(Checks checks) {
        checks.begin("Promise 5: no such party, or another number");
        ConferenceBridge bridge = inUse();
        for (int party : Checks.NO_PARTIES) {
            for (int gain : new int[] {0, 256, 1024, 1025}) {
                checks.due("gain(" + party + ", " + gain + ")", bridge.gain(party, gain), false);
            }
        }
        for (int gain : new int[] {-1, 1025, -256, 65536, LEAST, MOST}) {
            for (int party = 0; party < 8; party++) {
                checks.due("gain(" + party + ", " + gain + ")", bridge.gain(party, gain), false);
            }
        }
        checks.dueSame(bridge, inUse());
    }

    private static void mutedAndNotMutedAgain(Checks checks) {
        checks.begin("Promise 6: muted and not muted again");
        for (int party = 0; party < 8; party++) {
            ConferenceBridge bridge = new ConferenceBridge();
            bridge.ramp(party, 20000, 0);
            bridge.speakers(1);
            checks.due("mute(" + party + ", false) at first", bridge.mute(party, false), true);
            checks.due("mix() with " + party, bridge.mix(), 1 << party);
            checks.due("mute(" + party + ", true)", bridge.mute(party, true), true);
            checks.due("mute(" + party + ", true) again", bridge.mute(party, true), true);
            checks.due("mix() without " + party, bridge.mix(), party == 0 ? 4 : 1);
            checks.due("mute(" + party + ", false)", bridge.mute(party, false), true);
            checks.due("mix() with " + party + " again", bridge.mix(), 1 << party);
        }
    }

    private static void muteRefuses(Checks checks) {
        checks.begin("Promise 6: no such party");
        ConferenceBridge bridge = inUse();
        for (int party : Checks.NO_PARTIES) {
            checks.due("mute(" + party + ", true)", bridge.mute(party, true), false);
            checks.due("mute(" + party + ", false)", bridge.mute(party, false), false);
        }
        checks.dueSame(bridge, inUse());
    }

    private static void speakers1And8(Checks checks) {
        checks.begin("Promise 7: 1 and 8 speakers");
        ConferenceBridge bridge = new ConferenceBridge();
        for (int party = 0; party < 8; party++) {
            bridge.ramp(party, 100 + 1000 * party, 0);
        }
        checks.due("speakers(1)", bridge.speakers(1), true);
        checks.due("mix() with speakers(1)", bridge.mix(), 128);
        checks.due("speakers(8)", bridge.speakers(8), true);
        checks.due("mix() with speakers(8)", bridge.mix(), 255);
    }

    private static void speakersRefuses(Checks checks) {
        checks.begin("Promise 7: another number");
        for (int n : new int[] {0, 9, -1, 10, 256 + 1, LEAST, MOST}) {
            ConferenceBridge bridge = inUse();
            checks.due("speakers(" + n + ")", bridge.speakers(n), false);
            checks.dueSame(bridge, inUse());
        }
    }

    private static void putTakesTheLowestEightBits(Checks checks) {
        checks.begin("Promise 8: a code's lowest eight bits");
        int[][] codesAndEightBits = {{128, 128}, {256 + 130, 130}, {-126, 130}, {256, 0}, {-256, 0}, {LEAST, 0},
            {511, 255}, {-1, 255}, {MOST, 255}, {0x12345680, 128}, {-128, 128}};
        for (int[] row : codesAndEightBits) {
            ConferenceBridge bridge = onlyParty1();
            bridge.ramp(1, 1000, 0);
            checks.due("put(1, 0, " + row[0] + ")", bridge.put(1, 0, row[0]), true);
            checks.due("put(1, 7, " + row[0] + ")", bridge.put(1, 7, row[0]), true);
            bridge.mix();
            checks.dueOut(bridge, 7, row[1], 206, 206, 206, 206, 206, 206, row[1]);
        }
    }

    private static void putRefuses(Checks checks) {
        checks.begin("Promise 8: no such party or place");
        ConferenceBridge bridge = inUse();
        for (int party : Checks.NO_PARTIES) {
            for (int k : new int[] {0, 7, 8, -1}) {
                checks.due("put(" + party + ", " + k + ", 128)", bridge.put(party, k, 128), false);
            }
        }
        for (int k : Checks.NO_PLACES) {
            for (int party = 0; party < 8; party++) {
                checks.due("put(" + party + ", " + k + ", 128)", bridge.put(party, k, 128), false);
            }
        }
        checks.dueSame(bridge, inUse());
    }

    /** What party 7 hears by mu: 128 at the greatest, 0 at the least, 255 for 0 and also for -1, whose code means 0. */
    private static void dueRamp(Checks checks, int from, int step, int... codes) {
        ConferenceBridge bridge = onlyParty1();
        checks.due("ramp(1, " + from + ", " + step + ")", bridge.ramp(1, from, step), true);
        bridge.mix();
        for (int k = 0; k < 8; k++) {
            checks.due("out(7, " + k + ") behind ramp(1, " + from + ", " + step + ")", bridge.out(7, k), codes[k]);
        }
    }

    private static void rampBeyondTheRangeOfAnInt(Checks checks) {
        checks.begin("Promise 9: from + k * step beyond the range of an int");
        dueRamp(checks, MOST, 1, 128, 128, 128, 128, 128, 128, 128, 128);
        dueRamp(checks, MOST, MOST, 128, 128, 128, 128, 128, 128, 128, 128);
        dueRamp(checks, LEAST, -1, 0, 0, 0, 0, 0, 0, 0, 0);
        dueRamp(checks, LEAST, LEAST, 0, 0, 0, 0, 0, 0, 0, 0);
        dueRamp(checks, 0, 1 << 29, 255, 128, 128, 128, 128, 128, 128, 128);
        dueRamp(checks, 0, -(1 << 29), 255, 0, 0, 0, 0, 0, 0, 0);
        dueRamp(checks, 0, LEAST, 255, 0, 0, 0, 0, 0, 0, 0);
        dueRamp(checks, LEAST, MOST, 0, 255, 128, 128, 128, 128, 128, 128);
        dueRamp(checks, MOST, LEAST, 128, 255, 0, 0, 0, 0, 0, 0);
        dueRamp(checks, MOST, -MOST, 128, 255, 0, 0, 0, 0, 0, 0);
    }

    private static void rampSaturatesEach(Checks checks) {
        checks.begin("Promise 9: each saturated");
        dueRamp(checks, 98304, -32768, 128, 128, 128, 255, 0, 0, 0, 0);
        dueRamp(checks, -65536, 32768, 0, 0, 255, 128, 128, 128, 128, 128);
        dueRamp(checks, 65536, 0, 128, 128, 128, 128, 128, 128, 128, 128);
        dueRamp(checks, -65536, 0, 0, 0, 0, 0, 0, 0, 0, 0);
        dueRamp(checks, 32767, 1, 128, 128, 128, 128, 128, 128, 128, 128);
        dueRamp(checks, -32768, -1, 0, 0, 0, 0, 0, 0, 0, 0);
    }

    private static void rampRefuses(Checks checks) {
        checks.begin("Promise 9: no such party");
        ConferenceBridge bridge = inUse();
        for (int party : Checks.NO_PARTIES) {
            checks.due("ramp(" + party + ", 30000, 0)", bridge.ramp(party, 30000, 0), false);
            checks.due("ramp(" + party + ", least, least)", bridge.ramp(party, LEAST, LEAST), false);
        }
        checks.dueSame(bridge, inUse());
    }

    private static void mixWithNoPartyThatSpeaks(Checks checks) {
        checks.begin("Promise 10: no party that speaks");
        ConferenceBridge bridge = new ConferenceBridge();
        bridge.speakers(8);
        bridge.ramp(1, 30000, 0);
        checks.due("mix() with all of A's parties and party 1", bridge.mix(), 2 + 1 + 4 + 16 + 64);
        for (int party = 0; party < 8; party++) {
            bridge.gain(party, 0);
        }
        checks.due("mix() with all gains 0", bridge.mix(), 0);
        for (int party = 0; party < 8; party++) {
            checks.dueOutThroughout(bridge, party, party % 2 == 0 ? 213 : 255);
            checks.due("energy(" + party + ")", bridge.energy(party), 0);
        }
    }

    /** mu's 254 means 8: each hears seven of them, 56, whose code is 248. */
    private static void mixWithAllEight(Checks checks) {
        checks.begin("Promise 10: all eight speak");
        ConferenceBridge bridge = new ConferenceBridge();
        bridge.speakers(8);
        for (int party = 0; party < 8; party++) {
            bridge.law(party, 1);
            bridge.ramp(party, 8, 0);
        }
        checks.due("mix()", bridge.mix(), 255);
        for (int party = 0; party < 8; party++) {
            checks.dueOutThroughout(bridge, party, 248);
        }
    }

    private static void outAheadOfTheFirstMixing(Checks checks) {
        checks.begin("Promise 11: ahead of the first mixing");
        ConferenceBridge bridge = new ConferenceBridge();
        for (int party = 0; party < 8; party++) {
            bridge.law(party, 1 - party % 2);
            checks.dueOutThroughout(bridge, party, party % 2 == 0 ? 213 : 255);
        }
        // Nothing is heard, as all are muted: only the law differs from what went ahead of it.
        for (int party = 0; party < 8; party++) {
            bridge.mute(party, true);
        }
        bridge.mix();
        for (int party = 0; party < 8; party++) {
            checks.dueOutThroughout(bridge, party, party % 2 == 0 ? 255 : 213);
        }
    }

    private static void outAnswersNone(Checks checks) {
        checks.begin("Promise 11: NONE for no such party or place");
        ConferenceBridge bridge = inUse();
        for (int party : Checks.NO_PARTIES) {
            for (int k : new int[] {0, 7, 8, -1}) {
                checks.due("out(" + party + ", " + k + ")", bridge.out(party, k), -1);
            }
        }
        for (int k : Checks.NO_PLACES) {
            for (int party = 0; party < 8; party++) {
                checks.due("out(" + party + ", " + k + ")", bridge.out(party, k), -1);
            }
        }
        checks.dueSame(bridge, inUse());
    }

    private static void energyAheadOfTheFirstMixing(Checks checks) {
        checks.begin("Promise 12: 0 ahead of the first mixing");
        ConferenceBridge bridge = new ConferenceBridge();
        for (int party = 0; party < 8; party++) {
            bridge.ramp(party, 32767, 0);
            bridge.gain(party, 1024);
            checks.due("energy(" + party + ")", bridge.energy(party), 0);
        }
    }

    private static void energyOfTheLatestMixing(Checks checks) {
        checks.begin("Promise 12: that of the latest mixing");
        ConferenceBridge bridge = new ConferenceBridge();
        bridge.ramp(1, 1000, 0);
        bridge.mix();
        bridge.gain(1, 1024);
        checks.due("energy(1) though the gain was changed", bridge.energy(1), 8L * 988 * 988);
        bridge.put(1, 0, 0);
        checks.due("energy(1) though a code was changed", bridge.energy(1), 8L * 988 * 988);
        bridge.ramp(1, 0, 0);
        checks.due("energy(1) though all codes were changed", bridge.energy(1), 8L * 988 * 988);
        bridge.law(1, 0);
        checks.due("energy(1) though the law was changed", bridge.energy(1), 8L * 988 * 988);
        bridge.mute(1, true);
        checks.due("energy(1) though it was muted", bridge.energy(1), 8L * 988 * 988);
        bridge.law(1, 1);
        bridge.mix();
        checks.due("energy(1) in the next mixing", bridge.energy(1), 0);
    }

    private static void energyThrowsForNoSuchParty(Checks checks) {
        checks.begin("Promise 12: NoSuchElementException for no such party");
        ConferenceBridge bridge = inUse();
        for (int party : Checks.NO_PARTIES) {
            checks.dueNoSuchElement("energy(" + party + ")", () -> bridge.energy(party));
            checks.dueNoSuchElement("energy(" + party + ") ahead of a mixing", () -> fresh().energy(party));
        }
        checks.dueSame(bridge, inUse());
    }
}
