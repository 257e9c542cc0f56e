/** Promise 4: a party has a law from now on. */
public final class Promise04LawTest {
    public static void main(String[] args) {
        Checks checks = new Checks();
        whatCameStaysAsCodes(checks);
        rampsGoByTheNewLaw(checks);
        whatGoesIsByTheNewLawFromTheNextMixing(checks);
        wrongInputsChangeNothing(checks);
        checks.end();
    }

    private static void whatCameStaysAsCodes(Checks checks) {
        ConferenceBridge bridge = new ConferenceBridge();
        checks.due("law(0, 1)", bridge.law(0, 1), true);
        bridge.mix();
        // The code 213 means 716 by mu.
        checks.due("energy(0) of A's codes by mu", bridge.energy(0), 8L * 716 * 716);
        checks.due("law(0, 0)", bridge.law(0, 0), true);
        bridge.mix();
        checks.due("energy(0) by A again", bridge.energy(0), 512);
    }

    private static void rampsGoByTheNewLaw(Checks checks) {
        ConferenceBridge bridge = new ConferenceBridge();
        bridge.law(1, 0);
        bridge.ramp(1, 0, 0);
        bridge.mix();
        checks.due("energy(1) of A's codes of 0", bridge.energy(1), 512);
    }

    private static void whatGoesIsByTheNewLawFromTheNextMixing(Checks checks) {
        ConferenceBridge bridge = new ConferenceBridge();
        bridge.ramp(7, 32767, 0);
        bridge.speakers(1);
        bridge.mix();
        checks.dueOutThroughout(bridge, 2, 0xAA);
        checks.due("law(2, 1)", bridge.law(2, 1), true);
        checks.dueOutThroughout(bridge, 2, 0xAA);
        bridge.mix();
        checks.dueOutThroughout(bridge, 2, 128);
        checks.dueOutThroughout(bridge, 4, 0xAA);
    }

    private static void wrongInputsChangeNothing(Checks checks) {
        ConferenceBridge bridge = new ConferenceBridge();
        for (int party : Checks.NO_PARTIES) {
            checks.due("law(" + party + ", 0)", bridge.law(party, 0), false);
            checks.due("law(" + party + ", 1)", bridge.law(party, 1), false);
        }
        for (int law : Checks.NO_LAWS) {
            checks.due("law(0, " + law + ")", bridge.law(0, law), false);
            checks.due("law(7, " + law + ")", bridge.law(7, law), false);
            checks.due("law(8, " + law + ")", bridge.law(8, law), false);
        }
        checks.due("mix() behind laws refused", bridge.mix(), 21);
        checks.due("energy(0) behind laws refused", bridge.energy(0), 512);
        checks.due("energy(7) behind laws refused", bridge.energy(7), 0);
    }
}
