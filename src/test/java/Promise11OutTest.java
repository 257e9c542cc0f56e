/** Promise 11: what goes to a party since the latest mixing. */
public final class Promise11OutTest {
    public static void main(String[] args) {
        Checks checks = new Checks();
        aheadOfTheFirstMixing(checks);
        placeByPlace(checks);
        onlyAMixingChangesIt(checks);
        noSuchPartyOrPlace(checks);
        checks.end();
    }

    private static void aheadOfTheFirstMixing(Checks checks) {
        ConferenceBridge bridge = new ConferenceBridge();
        for (int party = 0; party < 8; party++) {
            bridge.law(party, 1 - party % 2);
            bridge.ramp(party, 5000, 10);
            checks.dueOutThroughout(bridge, party, party % 2 == 0 ? 213 : 255);
        }
    }

    private static void placeByPlace(Checks checks) {
        ConferenceBridge bridge = new ConferenceBridge();
        bridge.speakers(1);
        for (int k = 0; k < 8; k++) {
            bridge.put(1, k, 128 + 17 * k);
        }
        bridge.mix();
        checks.dueOut(bridge, 3, 128, 145, 162, 179, 196, 213, 230, 247);
        checks.dueOutThroughout(bridge, 1, 255);
    }

    private static void onlyAMixingChangesIt(Checks checks) {
        ConferenceBridge bridge = new ConferenceBridge();
        bridge.ramp(1, 32767, 0);
        bridge.speakers(1);
        bridge.mix();
        bridge.ramp(1, -32768, 0);
        bridge.ramp(3, 100, 0);
        bridge.put(3, 0, 0);
        bridge.law(3, 0);
        bridge.gain(1, 0);
        bridge.mute(1, true);
        bridge.speakers(8);
        checks.dueOutThroughout(bridge, 3, 128);
        checks.dueOutThroughout(bridge, 0, 0xAA);
    }

    private static void noSuchPartyOrPlace(Checks checks) {
        ConferenceBridge bridge = new ConferenceBridge();
        for (int time = 0; time < 2; time++) {
            for (int party : Checks.NO_PARTIES) {
                checks.due("out(" + party + ", 0)", bridge.out(party, 0), ConferenceBridge.NONE);
                checks.due("out(" + party + ", " + party + ")", bridge.out(party, party), ConferenceBridge.NONE);
            }
            for (int place : Checks.NO_PLACES) {
                checks.due("out(0, " + place + ")", bridge.out(0, place), ConferenceBridge.NONE);
                checks.due("out(7, " + place + ")", bridge.out(7, place), ConferenceBridge.NONE);
            }
            bridge.mix();
        }
    }
}
