/** Promise 12: a party's energy in the latest mixing. */
public final class Promise12EnergyTest {
    public static void main(String[] args) {
        Checks checks = new Checks();
        ofTheLatestMixing(checks);
        sumOfSquares(checks);
        theGreatestOfAll(checks);
        noSuchParty(checks);
        checks.end();
    }

    private static void ofTheLatestMixing(Checks checks) {
        ConferenceBridge bridge = new ConferenceBridge();
        bridge.ramp(1, 1000, 0);
        checks.due("energy(1) ahead of the first mixing", bridge.energy(1), 0);
        bridge.mix();
        checks.due("energy(1) in the first mixing", bridge.energy(1), 8L * 988 * 988);
        bridge.ramp(1, 0, 0);
        bridge.gain(1, 1024);
        bridge.law(1, 0);
        bridge.mute(1, true);
        checks.due("energy(1) till the next mixing", bridge.energy(1), 8L * 988 * 988);
        bridge.ramp(1, 0, 0);
        bridge.mix();
        checks.due("energy(1) in the second mixing", bridge.energy(1), 8L * 32 * 32);
    }

    /** The codes 254, 253, .. mean 8, 16, .. by mu; 126 means -8. */
    private static void sumOfSquares(Checks checks) {
        ConferenceBridge bridge = new ConferenceBridge();
        bridge.put(5, 0, 254);
        bridge.put(5, 1, 253);
        bridge.put(5, 2, 252);
        bridge.put(5, 7, 126);
        bridge.speakers(1);
        bridge.mix();
        checks.due("energy(5), of one that does speak", bridge.energy(5), 64 + 256 + 576 + 64);
        checks.due("energy(0), of one that does not", bridge.energy(0), 512);
    }

    private static void theGreatestOfAll(Checks checks) {
        ConferenceBridge bridge = new ConferenceBridge();
        for (int party = 0; party < 8; party++) {
            bridge.gain(party, 1024);
            bridge.ramp(party, -32768, 0);
        }
        bridge.mix();
        for (int party = 0; party < 8; party++) {
            checks.due("energy(" + party + ") at the greatest", bridge.energy(party), 8L * 32768 * 32768);
        }
    }

    private static void noSuchParty(Checks checks) {
        ConferenceBridge bridge = new ConferenceBridge();
        for (int time = 0; time < 2; time++) {
            for (int party : Checks.NO_PARTIES) {
                checks.dueNoSuchElement("energy(" + party + ")", () -> bridge.energy(party));
            }
            bridge.mix();
        }
    }
}
