/** Promise 10: which parties speak, and what a mixing makes of it. */
public final class Promise10MixTest {
    public static void main(String[] args) {
        Checks checks = new Checks();
        ofEqualOnesTheLowerNumber(checks);
        onlyThoseWithSomeEnergy(checks);
        energyDecidesNotTheGreatestSample(checks);
        eachHearsAllSpeakersButItself(checks);
        sumsAreSaturatedOnlyAtTheEnd(checks);
        theOwnVoiceIsTakenOutAheadOfSaturating(checks);
        nothingIsLeftOfAnEarlierMixing(checks);
        checks.end();
    }

    private static void ofEqualOnesTheLowerNumber(Checks checks) {
        ConferenceBridge bridge = new ConferenceBridge();
        for (int party = 0; party < 8; party++) {
            bridge.law(party, 1);
            bridge.ramp(party, party % 2 == 0 ? 700 : -700, 0);
        }
        checks.due("mix() of equal ones", bridge.mix(), 7);
        bridge.mute(1, true);
        checks.due("mix() of equal ones, 1 muted", bridge.mix(), 1 + 4 + 8);
        bridge.ramp(7, 800, 0);
        checks.due("mix() with 7 louder", bridge.mix(), 128 + 1 + 4);
        bridge.speakers(8);
        checks.due("mix() of all but 1", bridge.mix(), 253);
    }

    private static void onlyThoseWithSomeEnergy(Checks checks) {
        ConferenceBridge bridge = new ConferenceBridge();
        bridge.speakers(8);
        for (int party = 0; party < 8; party += 2) {
            bridge.law(party, 1);
            bridge.ramp(party, 0, 0);
        }
        checks.due("mix() of silence", bridge.mix(), 0);
        for (int party = 0; party < 8; party++) {
            checks.dueOutThroughout(bridge, party, 255);
        }
        bridge.put(6, 4, 254);
        checks.due("mix() with one sample 8", bridge.mix(), 64);
        bridge.gain(6, 31);
        checks.due("mix() with one sample 8 made 0", bridge.mix(), 0);
        bridge.put(6, 4, 126);
        checks.due("mix() with one sample -8 made -1", bridge.mix(), 64);
        checks.dueOut(bridge, 0, 255, 255, 255, 255, 127, 255, 255, 255);
        checks.dueOutThroughout(bridge, 6, 255);
    }

    private static void energyDecidesNotTheGreatestSample(Checks checks) {
        ConferenceBridge bridge = new ConferenceBridge();
        bridge.speakers(1);
        bridge.put(1, 0, bridge.encode(1, 2000));
        bridge.ramp(3, 1000, 0);
        checks.due("mix() of a click and a tone", bridge.mix(), 8);
        // Squares beyond 32 bits: the louder one must not seem the softer one.
        bridge.ramp(1, 32767, 0);
        bridge.ramp(3, 20000, 0);
        checks.due("mix() of two loud ones", bridge.mix(), 2);
    }

    private static void eachHearsAllSpeakersButItself(Checks checks) {
        ConferenceBridge bridge = new ConferenceBridge();
        bridge.ramp(1, 396, 0);
        bridge.ramp(3, -1308, 0);
        bridge.ramp(5, 2876, 0);
        checks.due("mix()", bridge.mix(), 2 + 8 + 32);
        long[] voices = {bridge.decode(1, bridge.encode(1, 396)), bridge.decode(1, bridge.encode(1, -1308)), bridge.decode(1, bridge.encode(1, 2876))};
        int all = (int) (voices[0] + voices[1] + voices[2]);
        checks.dueOutThroughout(bridge, 1, bridge.encode(1, (int) (voices[1] + voices[2])));
        checks.dueOutThroughout(bridge, 3, bridge.encode(1, (int) (voices[0] + voices[2])));
        checks.dueOutThroughout(bridge, 5, bridge.encode(1, (int) (voices[0] + voices[1])));
        checks.dueOutThroughout(bridge, 7, bridge.encode(1, all));
        checks.dueOutThroughout(bridge, 0, bridge.encode(0, all));
        checks.dueOutThroughout(bridge, 6, bridge.encode(0, all));
    }

    private static void sumsAreSaturatedOnlyAtTheEnd(Checks checks) {
        ConferenceBridge bridge = new ConferenceBridge();
        bridge.ramp(1, 30000, 0);
        bridge.ramp(3, 30000, 0);
        bridge.ramp(5, -30000, 0);
        checks.due("mix()", bridge.mix(), 2 + 8 + 32);
        int voice = bridge.decode(1, bridge.encode(1, 30000));
        checks.dueOutThroughout(bridge, 7, bridge.encode(1, voice));
        checks.dueOutThroughout(bridge, 5, 128);
        checks.dueOutThroughout(bridge, 1, 255);
        checks.dueOutThroughout(bridge, 3, 255);
        bridge.ramp(1, -30000, 0);
        bridge.mix();
        checks.dueOutThroughout(bridge, 3, 0);
        checks.dueOutThroughout(bridge, 7, bridge.encode(1, -voice));
    }

    /** mu means 30076 by the code of 30000, and 7932 by that of 8000. */
    private static void theOwnVoiceIsTakenOutAheadOfSaturating(Checks checks) {
        for (int sign = -1; sign <= 1; sign += 2) {
            ConferenceBridge bridge = new ConferenceBridge();
            bridge.ramp(1, sign * 30000, 0);
            bridge.ramp(3, sign * 8000, 0);
            bridge.speakers(2);
            checks.due("mix()", bridge.mix(), 2 + 8);
            checks.dueOutThroughout(bridge, 1, bridge.encode(1, sign * 7932));
            checks.dueOutThroughout(bridge, 3, bridge.encode(1, sign * 30076));
            checks.dueOutThroughout(bridge, 4, sign < 0 ? 42 : 170);
            checks.dueOutThroughout(bridge, 5, sign < 0 ? 0 : 128);
        }
    }

    private static void nothingIsLeftOfAnEarlierMixing(Checks checks) {
        ConferenceBridge bridge = new ConferenceBridge();
        bridge.ramp(1, 30000, 100);
        bridge.ramp(2, 20000, 100);
        int first = bridge.mix();
        int heard = bridge.out(7, 7);
        long energy = bridge.energy(1);
        checks.due("mix() again", bridge.mix(), first);
        checks.due("out(7, 7) again", bridge.out(7, 7), heard);
        checks.due("energy(1) again", bridge.energy(1), energy);
        bridge.ramp(1, 0, 0);
        bridge.ramp(2, 0, 0);
        checks.due("mix() with 1 and 2 at 0", bridge.mix(), 21);
        checks.dueOutThroughout(bridge, 7, bridge.encode(1, 24));
    }
}
