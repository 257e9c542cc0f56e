/** Promise 9: all eight codes that come from a party. */
public final class Promise09RampTest {
    public static void main(String[] args) {
        Checks checks = new Checks();
        stepByStep(checks);
        eachSaturated(checks);
        rampsReplaceWhatCame(checks);
        wrongInputsChangeNothing(checks);
        checks.end();
    }

    /** What party 1 or 2 hears when only the other speaks: the codes of what the samples mean. */
    private static void dueHeard(Checks checks, int from, int step, long... samples) {
        for (int party = 1; party <= 2; party++) {
            int law = party % 2;
            ConferenceBridge bridge = new ConferenceBridge();
            for (int other = 0; other < 8; other++) {
                bridge.mute(other, other != party);
            }
            checks.due("ramp(" + party + ", " + from + ", " + step + ")", bridge.ramp(party, from, step), true);
            bridge.mix();
            long energy = 0;
            int[] byA = new int[8];
            int[] byMu = new int[8];
            for (int k = 0; k < 8; k++) {
                int sample = Model.decode(law, Model.encode(law, samples[k]));
                energy += (long) sample * sample;
                byA[k] = Model.encode(0, sample);
                byMu[k] = Model.encode(1, sample);
            }
            checks.due("energy(" + party + ") of ramp " + from + ", " + step, bridge.energy(party), energy);
            checks.dueOut(bridge, 4, byA);
            checks.dueOut(bridge, 5, byMu);
        }
    }

    private static void stepByStep(Checks checks) {
        dueHeard(checks, 1000, 100, 1000, 1100, 1200, 1300, 1400, 1500, 1600, 1700);
        dueHeard(checks, -2000, 0, -2000, -2000, -2000, -2000, -2000, -2000, -2000, -2000);
        dueHeard(checks, 300, -100, 300, 200, 100, 0, -100, -200, -300, -400);
    }

    private static void eachSaturated(Checks checks) {
        dueHeard(checks, 30000, 1000, 30000, 31000, 32000, 32767, 32767, 32767, 32767, 32767);
        dueHeard(checks, -30000, -1000, -30000, -31000, -32000, -32768, -32768, -32768, -32768, -32768);
        dueHeard(checks, 100000, -20000, 32767, 32767, 32767, 32767, 20000, 0, -20000, -32768);
        int most = Integer.MAX_VALUE;
        int least = Integer.MIN_VALUE;
        dueHeard(checks, most, most, 32767, 32767, 32767, 32767, 32767, 32767, 32767, 32767);
        dueHeard(checks, least, least, -32768, -32768, -32768, -32768, -32768, -32768, -32768, -32768);
        dueHeard(checks, least, most, -32768, -1, 32767, 32767, 32767, 32767, 32767, 32767);
        dueHeard(checks, most, least, 32767, -1, -32768, -32768, -32768, -32768, -32768, -32768);
        dueHeard(checks, 500, 1 << 30, 500, 32767, 32767, 32767, 32767, 32767, 32767, 32767);
        dueHeard(checks, 500, -(1 << 30), 500, -32768, -32768, -32768, -32768, -32768, -32768, -32768);
    }

    private static void rampsReplaceWhatCame(Checks checks) {
        ConferenceBridge bridge = new ConferenceBridge();
        bridge.put(3, 7, 128);
        bridge.ramp(3, 0, 0);
        bridge.mix();
        checks.due("energy(3) behind ramp(3, 0, 0)", bridge.energy(3), 0);
        checks.due("energy(5), not touched", bridge.energy(5), 0);
    }

    private static void wrongInputsChangeNothing(Checks checks) {
        ConferenceBridge bridge = new ConferenceBridge();
        for (int party : Checks.NO_PARTIES) {
            checks.due("ramp(" + party + ", 30000, 0)", bridge.ramp(party, 30000, 0), false);
        }
        checks.due("mix() behind ramps refused", bridge.mix(), 21);
        checks.due("energy(0) behind ramps refused", bridge.energy(0), 512);
        checks.due("energy(7) behind ramps refused", bridge.energy(7), 0);
    }
}
