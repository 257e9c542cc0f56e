/** Promise 5: a party's gain. */
public final class Promise05GainTest {
    public static void main(String[] args) {
        Checks checks = new Checks();
        gainsScaleTheSamples(checks);
        dividedDownwards(checks);
        saturatedToSamples(checks);
        wrongInputsChangeNothing(checks);
        checks.end();
    }

    private static void dueEnergy(Checks checks, int from, int gain, long voice) {
        ConferenceBridge bridge = new ConferenceBridge();
        bridge.ramp(1, from, 0);
        checks.due("gain(1, " + gain + ")", bridge.gain(1, gain), true);
        bridge.mix();
        checks.due("energy(1) of " + from + " at gain " + gain, bridge.energy(1), 8 * voice * voice);
    }

    /** mu means 988 by the code of 1000. */
    private static void gainsScaleTheSamples(Checks checks) {
        dueEnergy(checks, 1000, 0, 0);
        dueEnergy(checks, 1000, 128, 494);
        dueEnergy(checks, 1000, 256, 988);
        dueEnergy(checks, 1000, 512, 1976);
        dueEnergy(checks, 1000, 1024, 3952);
        ConferenceBridge bridge = new ConferenceBridge();
        bridge.gain(0, 0);
        checks.due("mix() with party 0 at gain 0", bridge.mix(), 4 + 16 + 64);
    }

    private static void dividedDownwards(Checks checks) {
        dueEnergy(checks, 8, 31, 0);
        dueEnergy(checks, 8, 32, 1);
        dueEnergy(checks, 8, 33, 1);
        dueEnergy(checks, -8, 1, -1);
        dueEnergy(checks, -8, 32, -1);
        dueEnergy(checks, -8, 33, -2);
        dueEnergy(checks, 1000, 1, 3);
        dueEnergy(checks, -1000, 1, -4);
        dueEnergy(checks, 1000, 1023, 3948);
        dueEnergy(checks, -1000, 1023, -3949);
    }

    /** mu means 32124 at the greatest. */
    private static void saturatedToSamples(Checks checks) {
        dueEnergy(checks, 32767, 261, 32751);
        dueEnergy(checks, 32767, 262, 32767);
        dueEnergy(checks, 32767, 1024, 32767);
        dueEnergy(checks, -32768, 261, -32752);
        dueEnergy(checks, -32768, 262, -32768);
        dueEnergy(checks, -32768, 1024, -32768);
    }

    private static void wrongInputsChangeNothing(Checks checks) {
        ConferenceBridge bridge = new ConferenceBridge();
        for (int party : Checks.NO_PARTIES) {
            checks.due("gain(" + party + ", 256)", bridge.gain(party, 256), false);
        }
        for (int gain : new int[] {-1, 1025, 65536, Integer.MIN_VALUE, Integer.MAX_VALUE}) {
            checks.due("gain(0, " + gain + ")", bridge.gain(0, gain), false);
            checks.due("gain(8, " + gain + ")", bridge.gain(8, gain), false);
        }
        bridge.mix();
        checks.due("energy(0) behind gains refused", bridge.energy(0), 512);
        for (int party = 0; party < 8; party++) {
            checks.due("gain(" + party + ", 1024)", bridge.gain(party, 1024), true);
            checks.due("gain(" + party + ", 0)", bridge.gain(party, 0), true);
        }
        checks.due("mix() with all gains 0", bridge.mix(), 0);
    }
}
