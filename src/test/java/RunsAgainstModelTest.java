import java.util.NoSuchElementException;
import java.util.Random;

/** Runs of mixed calls, as many on each object as the document allows, held against the model. */
public final class RunsAgainstModelTest {
    private static final int RUNS = 1500;
    private static final int MOST_CALLS = 512;
    private static final int[] STRANGE = {-1, 8, 9, 255, 256, 1024, 1025, 32767, 32768, -32768, -32769,
        Integer.MIN_VALUE, Integer.MAX_VALUE};

    private final Checks checks;
    private final int seed;
    private final Random random;
    private final ConferenceBridge bridge = new ConferenceBridge();
    private final Model model = new Model();
    private int calls = 0;

    private RunsAgainstModelTest(Checks checks, int seed) {
        this.checks = checks;
        this.seed = seed;
        random = new Random(seed);
    }

    public static void main(String[] args) {
        Checks checks = new Checks();
        for (int seed = 0; seed < RUNS; seed++) {
            RunsAgainstModelTest run = new RunsAgainstModelTest(checks, seed);
            while (run.calls < MOST_CALLS) {
                run.callAny();
            }
        }
        checks.end();
    }

    /** Mostly a number below the count, now and then one that is far off. */
    private int number(int count) {
        return random.nextInt(40) == 0 ? STRANGE[random.nextInt(STRANGE.length)] : random.nextInt(count);
    }

    private int sample() {
        switch (random.nextInt(4)) {
            case 0: return random.nextInt();
            case 1: return random.nextInt(65) - 32;
            default: return random.nextInt(70000) - 35000;
        }
    }

    private void callAny() {
        int party = number(8);
        switch (random.nextInt(12)) {
            case 0: callDecode(number(2), random.nextInt(300) - 20); break;
            case 1: callEncode(number(2), sample()); break;
            case 2: callLaw(party, number(2)); break;
            case 3: callGain(party, number(1025)); break;
            case 4: callMute(party, random.nextInt(3) == 0); break;
            case 5: callSpeakers(number(9)); break;
            case 6: callPut(party, number(8), random.nextInt(600) - 300); break;
            case 7: callRamp(party, sample(), random.nextBoolean() ? random.nextInt(201) - 100 : sample()); break;
            case 8: callMix(); break;
            case 9: callOutOfAllParties(number(8)); break;
            case 10: callOut(party, number(8)); break;
            default: callEnergy(party); break;
        }
    }

    private void callDecode(int law, int code) {
        due("decode(" + law + ", " + code + ")", () -> bridge.decode(law, code), () -> Model.decode(law, code));
    }

    private void callEncode(int law, int sample) {
        due("encode(" + law + ", " + sample + ")", () -> bridge.encode(law, sample), () -> Model.encode(law, sample));
    }

    private void callLaw(int party, int law) {
        due("law(" + party + ", " + law + ")", bridge.law(party, law), model.law(party, law));
    }

    private void callGain(int party, int gain) {
        due("gain(" + party + ", " + gain + ")", bridge.gain(party, gain), model.gain(party, gain));
    }

    private void callMute(int party, boolean muted) {
        due("mute(" + party + ", " + muted + ")", bridge.mute(party, muted), model.mute(party, muted));
    }

    private void callSpeakers(int n) {
        due("speakers(" + n + ")", bridge.speakers(n), model.speakers(n));
    }

    private void callPut(int party, int k, int code) {
        due("put(" + party + ", " + k + ", " + code + ")", bridge.put(party, k, code), model.put(party, k, code));
    }

    private void callRamp(int party, int from, int step) {
        due("ramp(" + party + ", " + from + ", " + step + ")", bridge.ramp(party, from, step), model.ramp(party, from, step));
    }

    private void callMix() {
        due("mix()", bridge::mix, model::mix);
    }

    private void callOut(int party, int k) {
        due("out(" + party + ", " + k + ")", () -> bridge.out(party, k), () -> model.out(party, k));
    }

    private void callOutOfAllParties(int k) {
        for (int party = 0; party < 8 && calls < MOST_CALLS; party++) {
            callOut(party, k);
        }
    }

    private void callEnergy(int party) {
        due("energy(" + party + ")", () -> bridge.energy(party), () -> model.energy(party));
    }

    private String told(String call) {
        calls++;
        return "run " + seed + ", call " + calls + ": " + call;
    }

    private void due(String call, boolean got, boolean want) {
        checks.due(told(call), got, want);
    }

    private void due(String call, Checks.Call got, Checks.Call want) {
        long wanted;
        try {
            wanted = want.answer();
        } catch (NoSuchElementException expected) {
            checks.dueNoSuchElement(told(call), got);
            return;
        }
        checks.due(told(call), got.answer(), wanted);
    }
}
