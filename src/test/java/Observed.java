import java.util.ArrayList;
import java.util.List;

/**
 * All that calls can tell of an object's state, in 259 calls: what goes out, the energies, who may
 * speak, and each code that came. The object is changed by that.
 */
final class Observed {
    private final ConferenceBridge bridge;
    private final List<String> seen = new ArrayList<>();

    private Observed(ConferenceBridge bridge) {
        this.bridge = bridge;
    }

    static List<String> of(ConferenceBridge bridge) {
        Observed observed = new Observed(bridge);
        observed.whatGoesAndEnergies("ahead of a mixing");
        // Shows laws by the codes, gains by the energies, how many may speak by the answer.
        observed.mixing("a mixing");
        observed.whatGoesAndEnergies("behind a mixing");
        bridge.speakers(8);
        observed.mixing("a mixing with speakers(8)");
        observed.codesThatCame();
        return observed.seen;
    }

    private void mixing(String which) {
        seen.add("mix() " + bridge.mix() + " in " + which);
    }

    private void whatGoesAndEnergies(String when) {
        for (int party = 0; party < 8; party++) {
            whatGoes(party, when);
            seen.add("energy(" + party + ") " + bridge.energy(party) + " " + when);
        }
    }

    private void whatGoes(int party, String when) {
        for (int k = 0; k < 8; k++) {
            seen.add("out(" + party + ", " + k + ") " + bridge.out(party, k) + " " + when);
        }
    }

    /** By A no two codes mean the same, so what one party alone says to another tells its codes. */
    private void codesThatCame() {
        for (int party = 0; party < 8; party++) {
            bridge.law(party, 0);
            bridge.gain(party, 256);
            bridge.mute(party, true);
        }
        for (int party = 0; party < 8; party++) {
            bridge.mute(party, false);
            bridge.mix();
            whatGoes((party + 1) % 8, "with only " + party + " speaking");
            bridge.mute(party, true);
        }
    }
}
