/** Promise 7: so many may speak at once. */
public final class Promise07SpeakersTest {
    public static void main(String[] args) {
        Checks checks = new Checks();
        asManyAsMaySpeak(checks);
        wrongInputsChangeNothing(checks);
        checks.end();
    }

    private static void asManyAsMaySpeak(Checks checks) {
        ConferenceBridge bridge = new ConferenceBridge();
        int[] loudestFirst = {5, 2, 7, 0, 3, 6, 1, 4};
        for (int rank = 0; rank < 8; rank++) {
            bridge.ramp(loudestFirst[rank], 20000 - 2000 * rank, 0);
        }
        int speaking = 0;
        for (int n = 1; n <= 8; n++) {
            speaking += 1 << loudestFirst[n - 1];
            checks.due("speakers(" + n + ")", bridge.speakers(n), true);
            checks.due("mix() with speakers(" + n + ")", bridge.mix(), speaking);
        }
        checks.due("speakers(1)", bridge.speakers(1), true);
        checks.due("mix() with speakers(1) again", bridge.mix(), 1 << 5);
    }

    private static void wrongInputsChangeNothing(Checks checks) {
        ConferenceBridge bridge = new ConferenceBridge();
        for (int n : new int[] {0, -1, 9, 10, 256 + 2, Integer.MIN_VALUE, Integer.MAX_VALUE}) {
            checks.due("speakers(" + n + ")", bridge.speakers(n), false);
            checks.due("mix() behind speakers(" + n + ") refused", bridge.mix(), 21);
        }
    }
}
