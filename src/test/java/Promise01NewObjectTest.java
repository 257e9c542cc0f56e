/** Promise 1: what a new object holds. */
public final class Promise01NewObjectTest {
    public static void main(String[] args) {
        Checks checks = new Checks();
        nothingGoesOutYet(checks);
        codesOfTheSampleZeroCame(checks);
        threeMaySpeak(checks);
        gainsLeaveSamplesAsTheyAre(checks);
        objectsAreApart(checks);
        checks.end();
    }

    private static void nothingGoesOutYet(Checks checks) {
        ConferenceBridge bridge = new ConferenceBridge();
        for (int party = 0; party < 8; party++) {
            checks.dueOutThroughout(bridge, party, party % 2 == 0 ? 213 : 255);
            checks.due("energy(" + party + ") at first", bridge.energy(party), 0);
        }
    }

    /** A's code of the sample 0 means 8, mu's means 0: only the even parties have energy. */
    private static void codesOfTheSampleZeroCame(Checks checks) {
        ConferenceBridge bridge = new ConferenceBridge();
        bridge.speakers(8);
        checks.due("the first mix() with speakers(8)", bridge.mix(), 1 + 4 + 16 + 64);
        for (int party = 0; party < 8; party++) {
            checks.due("energy(" + party + ") of a new object", bridge.energy(party), party % 2 == 0 ? 8 * 64 : 0);
            // 24 to an even party, which speaks (A: p is 1), 32 to an odd one (mu: v is 164, m is 4).
            checks.dueOutThroughout(bridge, party, party % 2 == 0 ? 0x81 ^ 0x55 : 255 - 4);
        }
    }

    private static void threeMaySpeak(Checks checks) {
        ConferenceBridge bridge = new ConferenceBridge();
        checks.due("the first mix()", bridge.mix(), 1 + 4 + 16);
        // 16 to those that speak and 24 to party 6 (A: p is 1), 24 to an odd one (mu: v is 156, m is 3).
        for (int party = 0; party < 8; party++) {
            checks.dueOutThroughout(bridge, party, party % 2 == 0 ? 0x81 ^ 0x55 : 255 - 3);
        }
    }

    private static void gainsLeaveSamplesAsTheyAre(Checks checks) {
        ConferenceBridge bridge = new ConferenceBridge();
        for (int party = 0; party < 8; party++) {
            bridge.ramp(party, 1000, 0);
        }
        bridge.mix();
        // A means 1008 by the code of 1000, mu 988.
        for (int party = 0; party < 8; party++) {
            long sample = party % 2 == 0 ? 1008 : 988;
            checks.due("energy(" + party + ") of eight times 1000", bridge.energy(party), 8 * sample * sample);
        }
    }

    private static void objectsAreApart(Checks checks) {
        ConferenceBridge used = new ConferenceBridge();
        ConferenceBridge other = new ConferenceBridge();
        used.speakers(1);
        used.law(0, 1);
        used.gain(2, 0);
        used.mute(4, true);
        used.ramp(6, 9000, 9);
        used.mix();
        checks.due("energy(6) of an object not used", other.energy(6), 0);
        checks.due("mix() of an object not used", other.mix(), 21);
    }
}
