/** Promise 6: a party is muted, or not. */
public final class Promise06MuteTest {
    public static void main(String[] args) {
        Checks checks = new Checks();
        mutedOnesDoNotSpeak(checks);
        mutedOnesStillHearAndHaveEnergy(checks);
        wrongInputsChangeNothing(checks);
        checks.end();
    }

    private static void mutedOnesDoNotSpeak(Checks checks) {
        for (int party = 0; party < 8; party++) {
            ConferenceBridge bridge = new ConferenceBridge();
            for (int each = 0; each < 8; each++) {
                bridge.ramp(each, 500, 0);
            }
            bridge.speakers(8);
            checks.due("mute(" + party + ", true)", bridge.mute(party, true), true);
            checks.due("mix() without " + party, bridge.mix(), 255 - (1 << party));
            checks.due("mute(" + party + ", true) again", bridge.mute(party, true), true);
            checks.due("mix() still without " + party, bridge.mix(), 255 - (1 << party));
            checks.due("mute(" + party + ", false)", bridge.mute(party, false), true);
            checks.due("mix() with all", bridge.mix(), 255);
        }
    }

    private static void mutedOnesStillHearAndHaveEnergy(Checks checks) {
        ConferenceBridge bridge = new ConferenceBridge();
        bridge.ramp(1, 1000, 0);
        bridge.ramp(3, 32767, 0);
        bridge.speakers(1);
        bridge.mute(3, true);
        checks.due("mix() with the loudest muted", bridge.mix(), 2);
        checks.due("energy(3), muted", bridge.energy(3), 8L * 32124 * 32124);
        // Party 3 hears 988, and so does party 5; party 1, the only one that speaks, hears 0.
        int code = bridge.encode(1, 988);
        checks.dueOutThroughout(bridge, 3, code);
        checks.dueOutThroughout(bridge, 5, code);
        checks.dueOutThroughout(bridge, 1, 255);
    }

    private static void wrongInputsChangeNothing(Checks checks) {
        ConferenceBridge bridge = new ConferenceBridge();
        for (int party : Checks.NO_PARTIES) {
            checks.due("mute(" + party + ", true)", bridge.mute(party, true), false);
            checks.due("mute(" + party + ", false)", bridge.mute(party, false), false);
        }
        checks.due("mix() behind mutes refused", bridge.mix(), 21);
    }
}
