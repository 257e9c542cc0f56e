import java.util.NoSuchElementException;

/** "What it is": an object is used for at most 512 calls, and the 512th still answers as promised. */
public final class BoundaryCallsTest {
    private static final int MOST_CALLS = 512;

    /** One of the calls that come ahead of the last one; none of them changes what that one answers. */
    private interface Earlier {
        void call(ConferenceBridge bridge, int number);
    }

    public static void main(String[] args) {
        Checks checks = new Checks();
        lastBehind(checks, "mixings", (bridge, number) -> bridge.mix());
        lastBehind(checks, "puts", (bridge, number) -> bridge.put(1, number % 8, 128));
        lastBehind(checks, "ramps", (bridge, number) -> bridge.ramp(1, 32767, 0));
        lastBehind(checks, "laws", (bridge, number) -> bridge.law(1, 1));
        lastBehind(checks, "gains", (bridge, number) -> bridge.gain(1, 256));
        lastBehind(checks, "mutes", (bridge, number) -> bridge.mute(1, false));
        lastBehind(checks, "speakers", (bridge, number) -> bridge.speakers(1));
        lastBehind(checks, "questions", BoundaryCallsTest::ask);
        lastBehind(checks, "refused calls", BoundaryCallsTest::refused);
        everyMixingOfAFullRun(checks);
        checks.end();
    }

    private static void ask(ConferenceBridge bridge, int number) {
        switch (number % 4) {
            case 0: bridge.encode(number % 2, 100 * number); break;
            case 1: bridge.decode(number % 2, number); break;
            case 2: bridge.out(number % 8, number / 8 % 8); break;
            default: bridge.energy(number % 8); break;
        }
    }

    private static void refused(ConferenceBridge bridge, int number) {
        try {
            switch (number % 5) {
                case 0: bridge.decode(2, number); break;
                case 1: bridge.energy(8); break;
                case 2: bridge.put(8, 0, number); break;
                case 3: bridge.ramp(-1, 30000, number); break;
                default: bridge.gain(0, 1025); break;
            }
        } catch (NoSuchElementException due) {
            return;
        }
    }

    /** Three calls make party 1 the only speaker, 508 more of one kind follow. */
    private static ConferenceBridge withOneCallLeft(Earlier earlier) {
        ConferenceBridge bridge = new ConferenceBridge();
        bridge.ramp(1, 32767, 0);
        bridge.speakers(1);
        bridge.mix();
        for (int calls = 3; calls < MOST_CALLS - 1; calls++) {
            earlier.call(bridge, calls);
        }
        return bridge;
    }

    private static void lastBehind(Checks checks, String kind, Earlier earlier) {
        checks.begin("the 512th call behind " + kind);
        checks.due("mix()", withOneCallLeft(earlier).mix(), 2);
        checks.due("out(0, 7)", withOneCallLeft(earlier).out(0, 7), 0xAA);
        checks.due("out(1, 0)", withOneCallLeft(earlier).out(1, 0), 255);
        checks.due("out(3, 7)", withOneCallLeft(earlier).out(3, 7), 128);
        checks.due("out(8, 0)", withOneCallLeft(earlier).out(8, 0), -1);
        checks.due("energy(1)", withOneCallLeft(earlier).energy(1), 8L * 32124 * 32124);
        checks.due("energy(0)", withOneCallLeft(earlier).energy(0), 512);
        checks.dueNoSuchElement("energy(8)", () -> withOneCallLeft(earlier).energy(8));
        checks.due("decode(0, 170)", withOneCallLeft(earlier).decode(0, 170), 32256);
        checks.dueNoSuchElement("decode(2, 170)", () -> withOneCallLeft(earlier).decode(2, 170));
        checks.due("encode(1, -1)", withOneCallLeft(earlier).encode(1, -1), 127);
        checks.due("law(0, 1)", withOneCallLeft(earlier).law(0, 1), true);
        checks.due("gain(7, 1024)", withOneCallLeft(earlier).gain(7, 1024), true);
        checks.due("gain(7, 1025)", withOneCallLeft(earlier).gain(7, 1025), false);
        checks.due("mute(1, true)", withOneCallLeft(earlier).mute(1, true), true);
        checks.due("speakers(8)", withOneCallLeft(earlier).speakers(8), true);
        checks.due("put(7, 7, 0)", withOneCallLeft(earlier).put(7, 7, 0), true);
        checks.due("put(7, 8, 0)", withOneCallLeft(earlier).put(7, 8, 0), false);
        checks.due("ramp(0, 0, 0)", withOneCallLeft(earlier).ramp(0, 0, 0), true);
    }

    /** Four calls a round, 128 rounds: what is put as the 509th call is heard in the 512th. */
    private static void everyMixingOfAFullRun(Checks checks) {
        checks.begin("each of 512 calls");
        ConferenceBridge bridge = new ConferenceBridge();
        for (int round = 0; round < MOST_CALLS / 4; round++) {
            // Only party 1 speaks, so party 7, by mu as well, hears each code as it came.
            int place = round % 8;
            checks.due("put(1, " + place + ", " + (128 + round) + ")", bridge.put(1, place, 128 + round), true);
            checks.due("speakers(1)", bridge.speakers(1), true);
            checks.due("mix() in round " + round, bridge.mix(), 2);
            checks.due("out(7, " + place + ") in round " + round, bridge.out(7, place), 128 + round);
        }
    }
}
