/** Promise 8: one code of what comes from a party. */
public final class Promise08PutTest {
    public static void main(String[] args) {
        Checks checks = new Checks();
        eachPlaceIsItsOwn(checks);
        onlyTheLowestEightBitsCount(checks);
        whatCameIsKept(checks);
        wrongInputsChangeNothing(checks);
        checks.end();
    }

    private static void eachPlaceIsItsOwn(Checks checks) {
        for (int party = 1; party < 8; party += 2) {
            for (int place = 0; place < 8; place++) {
                ConferenceBridge bridge = new ConferenceBridge();
                bridge.speakers(1);
                checks.due("put(" + party + ", " + place + ", 128)", bridge.put(party, place, 128), true);
                checks.due("mix()", bridge.mix(), 1 << party);
                checks.due("energy(" + party + ")", bridge.energy(party), 32124L * 32124);
                for (int k = 0; k < 8; k++) {
                    checks.due("out(0, " + k + ")", bridge.out(0, k), k == place ? bridge.encode(0, 32124) : 213);
                }
            }
        }
    }

    private static void onlyTheLowestEightBitsCount(Checks checks) {
        int[][] sameCodes = {{128 + 256, 128}, {-128, 128}, {Integer.MIN_VALUE, 0}, {Integer.MAX_VALUE, 255}, {-1, 255}, {256, 0}};
        for (int[] pair : sameCodes) {
            ConferenceBridge bridge = new ConferenceBridge();
            bridge.ramp(1, 1000, 0);
            checks.due("put(1, 3, " + pair[0] + ")", bridge.put(1, 3, pair[0]), true);
            bridge.mix();
            long sample = bridge.decode(1, pair[1]);
            checks.due("energy(1) behind put(1, 3, " + pair[0] + ")", bridge.energy(1), 7L * 988 * 988 + sample * sample);
        }
    }

    private static void whatCameIsKept(Checks checks) {
        ConferenceBridge bridge = new ConferenceBridge();
        bridge.put(1, 0, 128);
        bridge.mix();
        bridge.mix();
        checks.due("energy(1) in a second mixing", bridge.energy(1), 32124L * 32124);
        bridge.put(1, 0, 255);
        checks.due("energy(1) ahead of the next mixing", bridge.energy(1), 32124L * 32124);
        bridge.mix();
        checks.due("energy(1) of the code put last", bridge.energy(1), 0);
    }

    private static void wrongInputsChangeNothing(Checks checks) {
        ConferenceBridge bridge = new ConferenceBridge();
        for (int party : Checks.NO_PARTIES) {
            checks.due("put(" + party + ", 0, 128)", bridge.put(party, 0, 128), false);
            for (int place : Checks.NO_PLACES) {
                checks.due("put(" + party + ", " + place + ", 128)", bridge.put(party, place, 128), false);
            }
        }
        for (int place : Checks.NO_PLACES) {
            checks.due("put(0, " + place + ", 128)", bridge.put(0, place, 128), false);
            checks.due("put(7, " + place + ", 128)", bridge.put(7, place, 128), false);
        }
        checks.due("mix() behind puts refused", bridge.mix(), 21);
        for (int party = 0; party < 8; party++) {
            checks.due("energy(" + party + ") behind puts refused", bridge.energy(party), party % 2 == 0 ? 512 : 0);
        }
    }
}
