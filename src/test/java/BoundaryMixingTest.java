/** "Terms": the edges of PARTIES, GAIN and MIXING. All that is due here was worked by hand. */
public final class BoundaryMixingTest {
    public static void main(String[] args) {
        Checks checks = new Checks();
        partiesAre0To7(checks);
        gainsAre0To1024(checks);
        by256Downwards(checks);
        downwardsIsHeardToo(checks);
        saturatedToSamples(checks);
        saturatedAheadOfTheSum(checks);
        partiesWithoutEnergy(checks);
        theLeastEnergy(checks);
        allPartiesMuted(checks);
        equalEnergies(checks);
        equalEnergiesOfOtherSamples(checks);
        equalEnergiesAtTheLastTurn(checks);
        theGreatestEnergies(checks);
        asManyAsMaySpeak(checks);
        fewerThanMaySpeak(checks);
        threeAtFirst(checks);
        theSumIsSaturatedBehindTheOwnSamples(checks);
        aSumOfAllEightJustBeyondTheSamples(checks);
        whatCameIsKeptTillItIsChanged(checks);
        checks.end();
    }

    /** Only what is sent from now on has energy: every party by mu, with the codes of 0. */
    private static ConferenceBridge silent() {
        ConferenceBridge bridge = new ConferenceBridge();
        for (int party = 0; party < 8; party += 2) {
            bridge.law(party, 1);
            bridge.ramp(party, 0, 0);
        }
        return bridge;
    }

    private static void partiesAre0To7(Checks checks) {
        checks.begin("PARTIES 0 .. 7");
        for (int party = -1; party <= 8; party++) {
            ConferenceBridge bridge = silent();
            boolean is = party >= 0 && party <= 7;
            int number = party;
            checks.due("law(" + party + ", 1)", bridge.law(party, 1), is);
            checks.due("gain(" + party + ", 256)", bridge.gain(party, 256), is);
            checks.due("mute(" + party + ", false)", bridge.mute(party, false), is);
            checks.due("ramp(" + party + ", 32767, 0)", bridge.ramp(party, 32767, 0), is);
            checks.due("put(" + party + ", 0, 255)", bridge.put(party, 0, 255), is);
            checks.due("mix()", bridge.mix(), is ? 1 << party : 0);
            checks.due("out(" + party + ", 7)", bridge.out(party, 7), is ? 255 : -1);
            if (is) {
                checks.due("energy(" + party + ")", bridge.energy(party), 7L * 32124 * 32124);
            } else {
                checks.dueNoSuchElement("energy(" + party + ")", () -> bridge.energy(number));
            }
        }
    }

    /** mu's code 254 means 8. */
    private static void gainsAre0To1024(Checks checks) {
        checks.begin("GAIN 0 .. 1024");
        int[][] gainsAndSamples = {{0, 0}, {1, 0}, {255, 7}, {256, 8}, {257, 8}, {1023, 31}, {1024, 32}};
        for (int[] row : gainsAndSamples) {
            ConferenceBridge bridge = silent();
            bridge.put(7, 7, 254);
            checks.due("gain(7, " + row[0] + ")", bridge.gain(7, row[0]), true);
            bridge.mix();
            checks.due("energy(7) at gain " + row[0], bridge.energy(7), row[1] * row[1]);
        }
        checks.due("gain(7, -1)", silent().gain(7, -1), false);
        checks.due("gain(7, 1025)", silent().gain(7, 1025), false);
    }

    private static void dueVoice(Checks checks, int party, int from, int gain, long voice) {
        ConferenceBridge bridge = new ConferenceBridge();
        bridge.ramp(party, from, 0);
        bridge.gain(party, gain);
        bridge.mix();
        checks.due("energy(" + party + ") of " + from + " at gain " + gain, bridge.energy(party), 8 * voice * voice);
    }

    /** A means -264 by the code of that, mu -8. */
    private static void by256Downwards(Checks checks) {
        checks.begin("MIXING: by 256, downwards");
        dueVoice(checks, 1, -8, 1, -1);
        dueVoice(checks, 1, -8, 31, -1);
        dueVoice(checks, 1, -8, 32, -1);
        dueVoice(checks, 1, -8, 33, -2);
        dueVoice(checks, 1, -8, 255, -8);
        dueVoice(checks, 1, -8, 1023, -32);
        dueVoice(checks, 0, -264, 1, -2);
        dueVoice(checks, 1, 8, 31, 0);
        dueVoice(checks, 1, 8, 33, 1);
        dueVoice(checks, 0, 264, 1, 1);
    }

    /** mu means -988 by the code of -1000: the 256th part is -4, downwards, whose code is 126. */
    private static void downwardsIsHeardToo(Checks checks) {
        checks.begin("MIXING: by 256, downwards, and heard so");
        ConferenceBridge bridge = silent();
        bridge.ramp(1, -1000, 0);
        bridge.gain(1, 1);
        bridge.mix();
        checks.dueOutThroughout(bridge, 5, 126);
        bridge.ramp(1, 1000, 0);
        bridge.mix();
        checks.dueOutThroughout(bridge, 5, 255);
    }

    /** mu means at most 32124, A 32256. */
    private static void saturatedToSamples(Checks checks) {
        checks.begin("MIXING: saturated to samples");
        dueVoice(checks, 1, 32767, 261, 32751);
        dueVoice(checks, 1, 32767, 262, 32767);
        dueVoice(checks, 1, 32767, 1024, 32767);
        dueVoice(checks, 1, -32768, 261, -32752);
        dueVoice(checks, 1, -32768, 262, -32768);
        dueVoice(checks, 1, -32768, 1024, -32768);
        dueVoice(checks, 0, 32767, 260, 32760);
        dueVoice(checks, 0, 32767, 261, 32767);
        dueVoice(checks, 0, -32768, 260, -32760);
        dueVoice(checks, 0, -32768, 261, -32768);
    }

    /** 32767 less 32124 is 643, -32768 and 32124 are -644. */
    private static void saturatedAheadOfTheSum(Checks checks) {
        checks.begin("MIXING: saturated to samples, ahead of the sum");
        ConferenceBridge bridge = silent();
        bridge.ramp(1, 32767, 0);
        bridge.gain(1, 1024);
        bridge.ramp(3, -32768, 0);
        bridge.mix();
        checks.dueOutThroughout(bridge, 5, 215);
        bridge.ramp(1, -32768, 0);
        bridge.ramp(3, 32767, 0);
        bridge.mix();
        checks.dueOutThroughout(bridge, 5, 87);
    }

    private static void partiesWithoutEnergy(Checks checks) {
        checks.begin("MIXING: parties without energy");
        ConferenceBridge bridge = silent();
        bridge.speakers(8);
        checks.due("mix() of codes of 0", bridge.mix(), 0);
        for (int k = 0; k < 8; k++) {
            bridge.put(0, k, 127);
        }
        checks.due("mix() with mu's other code that means 0", bridge.mix(), 0);
        bridge.ramp(4, 100, 0);
        checks.due("mix() with only party 4", bridge.mix(), 16);
        bridge.gain(4, 0);
        checks.due("mix() with party 4 at gain 0", bridge.mix(), 0);
        checks.due("energy(4) at gain 0", bridge.energy(4), 0);
        for (int party = 0; party < 8; party++) {
            checks.dueOutThroughout(bridge, party, 255);
        }
    }

    private static void theLeastEnergy(Checks checks) {
        checks.begin("MIXING: the least energy that is some");
        for (int party = 0; party < 8; party++) {
            ConferenceBridge bridge = silent();
            bridge.put(party, 7, 254);
            bridge.gain(party, 31);
            checks.due("mix() with one 8 at gain 31", bridge.mix(), 0);
            bridge.gain(party, 32);
            checks.due("mix() with one 8 at gain 32", bridge.mix(), 1 << party);
            checks.due("energy(" + party + ")", bridge.energy(party), 1);
            bridge.put(party, 7, 126);
            bridge.gain(party, 1);
            checks.due("mix() with one -8 at gain 1", bridge.mix(), 1 << party);
            checks.due("energy(" + party + ")", bridge.energy(party), 1);
        }
    }

    /** By the codes of 20000 A means 19968, mu 19836. */
    private static void allPartiesMuted(Checks checks) {
        checks.begin("MIXING: all parties muted");
        ConferenceBridge bridge = new ConferenceBridge();
        bridge.speakers(8);
        for (int party = 0; party < 8; party++) {
            bridge.ramp(party, 20000, 0);
        }
        checks.due("mix() with none muted", bridge.mix(), 255);
        for (int party = 0; party < 8; party++) {
            bridge.mute(party, true);
        }
        checks.due("mix() with all muted", bridge.mix(), 0);
        for (int party = 0; party < 8; party++) {
            checks.dueOutThroughout(bridge, party, party % 2 == 0 ? 213 : 255);
            long sample = party % 2 == 0 ? 19968 : 19836;
            checks.due("energy(" + party + ")", bridge.energy(party), 8 * sample * sample);
        }
        bridge.mute(6, false);
        checks.due("mix() with all but 6 muted", bridge.mix(), 64);
    }

    private static void equalEnergies(Checks checks) {
        checks.begin("MIXING: equal energies");
        ConferenceBridge bridge = silent();
        for (int party = 0; party < 8; party++) {
            bridge.ramp(party, 700, 0);
        }
        for (int n = 1; n <= 8; n++) {
            bridge.speakers(n);
            checks.due("mix() with speakers(" + n + ")", bridge.mix(), (1 << n) - 1);
        }
    }

    /** mu's codes 252, 251 and 250 mean 24, 32 and 40: the squares of the first two make the third's. */
    private static void equalEnergiesOfOtherSamples(Checks checks) {
        checks.begin("MIXING: equal energies of other samples");
        ConferenceBridge bridge = silent();
        bridge.speakers(1);
        bridge.put(6, 0, 250);
        checks.due("mix() with party 6", bridge.mix(), 64);
        bridge.put(5, 3, 252);
        bridge.put(5, 4, 251);
        checks.due("mix() with party 5 as loud", bridge.mix(), 32);
        bridge.put(1, 7, 122);
        checks.due("mix() with party 1 as loud, below 0", bridge.mix(), 2);
        bridge.put(7, 7, 250);
        checks.due("mix() with party 7 as loud", bridge.mix(), 2);
        bridge.put(7, 0, 254);
        checks.due("mix() with party 7 a little louder", bridge.mix(), 128);

        // Eight times 8, by A for the even parties and by mu for party 1.
        ConferenceBridge ofBothLaws = new ConferenceBridge();
        ofBothLaws.ramp(1, 8, 0);
        checks.due("mix() of equal ones by both laws", ofBothLaws.mix(), 7);
    }

    private static void equalEnergiesAtTheLastTurn(Checks checks) {
        checks.begin("MIXING: equal energies behind the loudest");
        ConferenceBridge bridge = silent();
        for (int party = 0; party < 8; party++) {
            bridge.ramp(party, party == 7 ? 900 : 700, 0);
        }
        for (int n = 1; n <= 8; n++) {
            bridge.speakers(n);
            checks.due("mix() with speakers(" + n + ")", bridge.mix(), 128 + (1 << (n - 1)) - 1);
        }
    }

    /** Eight times the square of -32768 is 2 to the 33rd: more than an int, and 0 in its low bits. */
    private static void theGreatestEnergies(Checks checks) {
        checks.begin("MIXING: the greatest energies");
        ConferenceBridge bridge = new ConferenceBridge();
        for (int party = 0; party < 8; party++) {
            bridge.ramp(party, party < 4 ? 32767 : -32768, 0);
            bridge.gain(party, 1024);
        }
        checks.due("mix()", bridge.mix(), 16 + 32 + 64);
        checks.due("energy(0)", bridge.energy(0), 8589410312L);
        checks.due("energy(7)", bridge.energy(7), 8589934592L);
    }

    private static void asManyAsMaySpeak(Checks checks) {
        checks.begin("MIXING: as many as may speak, 1 .. 8");
        ConferenceBridge bridge = silent();
        int[] loudestFirst = {6, 3, 0, 7, 5, 1, 4, 2};
        int speaking = 0;
        for (int rank = 0; rank < 8; rank++) {
            bridge.ramp(loudestFirst[rank], 30000 >> rank, 0);
        }
        for (int n = 1; n <= 8; n++) {
            speaking += 1 << loudestFirst[n - 1];
            bridge.speakers(n);
            checks.due("mix() with speakers(" + n + ")", bridge.mix(), speaking);
        }
        bridge.speakers(1);
        checks.due("mix() with speakers(1) again", bridge.mix(), 64);
    }

    private static void fewerThanMaySpeak(Checks checks) {
        checks.begin("MIXING: fewer than may speak");
        ConferenceBridge bridge = silent();
        bridge.speakers(8);
        bridge.ramp(0, 300, 0);
        bridge.ramp(7, 300, 0);
        checks.due("mix() of two with energy", bridge.mix(), 129);
        bridge.mute(0, true);
        checks.due("mix() with one of them muted", bridge.mix(), 128);
    }

    private static void threeAtFirst(Checks checks) {
        checks.begin("MIXING: 3 may speak at first");
        ConferenceBridge bridge = new ConferenceBridge();
        for (int party = 0; party < 8; party++) {
            bridge.ramp(party, 1000 * (party + 1), 0);
        }
        checks.due("mix()", bridge.mix(), 128 + 64 + 32);
    }

    /** mu means 30076 by the code of 30000 (130), and 7932 by that of 8000 (160). */
    private static void theSumIsSaturatedBehindTheOwnSamples(Checks checks) {
        checks.begin("MIXING: the sum saturated after the own samples are left out");
        ConferenceBridge bridge = silent();
        bridge.law(4, 0);
        bridge.mute(4, true);
        bridge.ramp(1, 30000, 0);
        bridge.ramp(3, 8000, 0);
        checks.due("mix()", bridge.mix(), 2 + 8);
        checks.dueOutThroughout(bridge, 1, 160);
        checks.dueOutThroughout(bridge, 3, 130);
        checks.dueOutThroughout(bridge, 4, 170);
        checks.dueOutThroughout(bridge, 5, 128);
        bridge.ramp(1, -30000, 0);
        bridge.ramp(3, -8000, 0);
        checks.due("mix() below 0", bridge.mix(), 2 + 8);
        checks.dueOutThroughout(bridge, 1, 160 - 128);
        checks.dueOutThroughout(bridge, 3, 130 - 128);
        checks.dueOutThroughout(bridge, 4, 42);
        checks.dueOutThroughout(bridge, 5, 0);
    }

    /** All make -4: those that say 32767 hear -32771, those that say -32768 hear 32764. */
    private static void aSumOfAllEightJustBeyondTheSamples(Checks checks) {
        checks.begin("MIXING: the sum of all eight");
        ConferenceBridge bridge = new ConferenceBridge();
        bridge.speakers(8);
        for (int party = 0; party < 8; party++) {
            bridge.ramp(party, party < 4 ? 32767 : -32768, 0);
            bridge.gain(party, 1024);
        }
        checks.due("mix()", bridge.mix(), 255);
        for (int party = 0; party < 8; party++) {
            int least = party % 2 == 0 ? 42 : 0;
            checks.dueOutThroughout(bridge, party, party < 4 ? least : least + 128);
        }
        for (int party = 0; party < 8; party++) {
            bridge.ramp(party, -32768, 0);
        }
        checks.due("mix() of all at the least", bridge.mix(), 255);
        for (int party = 0; party < 8; party++) {
            checks.dueOutThroughout(bridge, party, party % 2 == 0 ? 42 : 0);
        }
    }

    /** 206, mu's code of 1000, means 988; by A it means 440. */
    private static void whatCameIsKeptTillItIsChanged(Checks checks) {
        checks.begin("MIXING: what came is kept till it is changed");
        ConferenceBridge bridge = silent();
        bridge.ramp(1, 1000, 0);
        for (int time = 1; time <= 3; time++) {
            checks.due("mix(), time " + time, bridge.mix(), 2);
            checks.due("energy(1), time " + time, bridge.energy(1), 8L * 988 * 988);
            checks.dueOutThroughout(bridge, 7, 206);
        }
        bridge.gain(1, 0);
        bridge.mute(1, true);
        bridge.law(1, 0);
        bridge.speakers(8);
        bridge.ramp(0, 1000, 0);
        bridge.put(2, 0, 128);
        bridge.put(1, 8, 128);
        bridge.mix();
        bridge.gain(1, 256);
        bridge.mix();
        checks.due("energy(1), the codes by A", bridge.energy(1), 8L * 440 * 440);
        bridge.law(1, 1);
        bridge.put(1, 5, 254);
        bridge.mix();
        checks.due("energy(1), one code changed", bridge.energy(1), 7L * 988 * 988 + 64);
    }
}
