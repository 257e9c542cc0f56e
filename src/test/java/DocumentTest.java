import java.lang.reflect.Method;
import java.util.List;

/**
 * The document in its order: the sentences that the other files test only together with others
 * have a test of their own here. All that is due was worked by hand, or is what another object
 * answers that was used in another way.
 */
public final class DocumentTest {
    private static final int TURNS = 40;

    public static void main(String[] args) {
        Checks checks = new Checks();
        aBridgeForTelephoneCalls(checks);
        eachPartyHasALaw(checks);
        eachPartyHasAGain(checks);
        eachPartyMayBeMuted(checks);
        eachPartyHasAFrameOfCodesThatCome(checks);
        eachPartyHasAFrameOfCodesThatGo(checks);
        atFirstTheCodesOfTheSample0(checks);
        atFirstNotMuted(checks);
        placeByPlace(checks);
        allMemoryIsTheClasssOwn(checks);
        twoObjectsInTurns(checks);
        aNewObjectBesideOneInUse(checks);
        questionsChangeNothing(checks);
        mixingChangesOnlyWhatGoesAndTheEnergies(checks);
        whatIsToldAgainChangesNothing(checks);
        checks.end();
    }

    /** 1008 by A at gain 512 is 2016, -988 by mu at gain 128 is -494, both make 1522. */
    private static void aBridgeForTelephoneCalls(Checks checks) {
        checks.begin("What it is: the first sentence");
        ConferenceBridge bridge = new ConferenceBridge();
        checks.due("ramp(0, 1000, 0)", bridge.ramp(0, 1000, 0), true);
        checks.due("gain(0, 512)", bridge.gain(0, 512), true);
        checks.due("ramp(1, -1000, 0)", bridge.ramp(1, -1000, 0), true);
        checks.due("gain(1, 128)", bridge.gain(1, 128), true);
        checks.due("ramp(2, 100, 0)", bridge.ramp(2, 100, 0), true);
        checks.due("speakers(2)", bridge.speakers(2), true);
        checks.due("mix()", bridge.mix(), 3);
        checks.dueOutThroughout(bridge, 0, 75);
        checks.dueOutThroughout(bridge, 1, 191);
        for (int party = 2; party < 8; party++) {
            checks.dueOutThroughout(bridge, party, party % 2 == 0 ? 226 : 198);
        }
        checks.due("energy(0)", bridge.energy(0), 8L * 2016 * 2016);
        checks.due("energy(1)", bridge.energy(1), 8L * 494 * 494);
        checks.due("energy(2)", bridge.energy(2), 8L * 104 * 104);
    }

    /** All parties send the code 206 throughout: 440 by A, 988 by mu. */
    private static ConferenceBridge allSend206() {
        ConferenceBridge bridge = new ConferenceBridge();
        for (int party = 0; party < 8; party++) {
            for (int k = 0; k < 8; k++) {
                bridge.put(party, k, 206);
            }
        }
        return bridge;
    }

    private static void dueEnergies(Checks checks, ConferenceBridge bridge, int other, long othersSample) {
        for (int party = 0; party < 8; party++) {
            long byItsFirstLaw = party % 2 == 0 ? 440 : 988;
            long sample = party == other ? othersSample : byItsFirstLaw;
            checks.due("energy(" + party + ") with " + other + " changed", bridge.energy(party), 8 * sample * sample);
        }
    }

    private static void eachPartyHasALaw(Checks checks) {
        checks.begin("PARTIES: each has a law of its own");
        for (int party = 0; party < 8; party++) {
            ConferenceBridge bridge = allSend206();
            checks.due("law(" + party + ")", bridge.law(party, 1 - party % 2), true);
            bridge.mix();
            dueEnergies(checks, bridge, party, party % 2 == 0 ? 988 : 440);
            // With all muted each gets the code of 0, which tells its law.
            for (int each = 0; each < 8; each++) {
                bridge.mute(each, true);
            }
            bridge.mix();
            for (int each = 0; each < 8; each++) {
                boolean byA = each == party ? party % 2 == 1 : each % 2 == 0;
                checks.dueOutThroughout(bridge, each, byA ? 213 : 255);
            }
        }
    }

    private static void eachPartyHasAGain(Checks checks) {
        checks.begin("PARTIES: each has a gain of its own");
        for (int party = 0; party < 8; party++) {
            ConferenceBridge bridge = allSend206();
            checks.due("gain(" + party + ", 64)", bridge.gain(party, 64), true);
            bridge.mix();
            dueEnergies(checks, bridge, party, party % 2 == 0 ? 110 : 247);
        }
    }

    private static void eachPartyMayBeMuted(Checks checks) {
        checks.begin("PARTIES: each may be muted");
        for (int muted = 0; muted < 256; muted++) {
            ConferenceBridge bridge = allSend206();
            bridge.speakers(8);
            for (int party = 0; party < 8; party++) {
                checks.due("mute(" + party + ")", bridge.mute(party, (muted >> party & 1) == 1), true);
            }
            checks.due("mix() with the set " + muted + " muted", bridge.mix(), 255 - muted);
        }
    }

    /** All go by A, where no two codes mean the same: a code that comes is heard as it came. */
    private static void eachPartyHasAFrameOfCodesThatCome(Checks checks) {
        checks.begin("PARTIES: a frame of eight codes that come, in 0 .. 7");
        for (int party = 0; party < 8; party++) {
            for (int place = 0; place < 8; place++) {
                ConferenceBridge bridge = new ConferenceBridge();
                checks.due("put(" + party + ", " + place + ", 170)", bridge.put(party, place, 170), true);
                for (int each = 0; each < 8; each++) {
                    bridge.law(each, 0);
                    bridge.mute(each, each != party);
                }
                checks.due("mix()", bridge.mix(), 1 << party);
                int listener = (party + 3) % 8;
                for (int k = 0; k < 8; k++) {
                    int atFirst = party % 2 == 0 ? 213 : 255;
                    checks.due("out(" + listener + ", " + k + ")", bridge.out(listener, k), k == place ? 170 : atFirst);
                }
            }
        }
    }

    /** What comes and what goes are two frames: neither is seen in the other. */
    private static void eachPartyHasAFrameOfCodesThatGo(Checks checks) {
        checks.begin("PARTIES: another frame that goes");
        ConferenceBridge bridge = new ConferenceBridge();
        for (int party = 0; party < 8; party++) {
            bridge.put(party, party, 0);
            checks.dueOutThroughout(bridge, party, party % 2 == 0 ? 213 : 255);
            bridge.ramp(party, 20000, 0);
            checks.dueOutThroughout(bridge, party, party % 2 == 0 ? 213 : 255);
        }
        bridge.speakers(1);
        // 19968 by A is louder than 19836 by mu; party 0 alone speaks, and hears nothing.
        checks.due("mix()", bridge.mix(), 1);
        checks.dueOutThroughout(bridge, 0, 213);
        checks.due("mix() again", bridge.mix(), 1);
        checks.due("energy(0) of what came, not of what went", bridge.energy(0), 8L * 19968 * 19968);
        checks.due("energy(2) of what came, not of what went", bridge.energy(2), 8L * 19968 * 19968);
    }

    /** By A the codes 213 and 255 mean 8 and 848; mu's 127 means 0 as well, but by A it means -848. */
    private static void atFirstTheCodesOfTheSample0(Checks checks) {
        checks.begin("PARTIES: at first codes of the sample 0");
        for (int party = 0; party < 8; party++) {
            ConferenceBridge bridge = new ConferenceBridge();
            for (int each = 0; each < 8; each++) {
                bridge.law(each, 0);
                bridge.mute(each, each != party);
            }
            checks.due("mix() with " + party + " alone", bridge.mix(), 1 << party);
            checks.dueOutThroughout(bridge, (party + 1) % 8, party % 2 == 0 ? 213 : 255);
        }
    }

    private static void atFirstNotMuted(Checks checks) {
        checks.begin("PARTIES: at first not muted");
        for (int party = 0; party < 8; party++) {
            ConferenceBridge bridge = new ConferenceBridge();
            bridge.put(party, 0, 128);
            bridge.speakers(1);
            checks.due("mix() with " + party + " the loudest", bridge.mix(), 1 << party);
        }
    }

    /** mu's 254, 253, 252, .. mean 8, 16, 24, ..: place k of party 1 and place 7 - k of party 3 make 72. */
    private static void placeByPlace(Checks checks) {
        checks.begin("MIXING: place by place");
        ConferenceBridge bridge = new ConferenceBridge();
        for (int party = 0; party < 8; party += 2) {
            bridge.mute(party, true);
        }
        for (int k = 0; k < 8; k++) {
            bridge.put(1, k, 254 - k);
            bridge.put(3, 7 - k, 254 - k);
        }
        checks.due("mix()", bridge.mix(), 2 + 8);
        checks.dueOut(bridge, 1, 247, 248, 249, 250, 251, 252, 253, 254);
        checks.dueOut(bridge, 3, 254, 253, 252, 251, 250, 249, 248, 247);
        checks.dueOutThroughout(bridge, 5, 246);
        // A: p is 4.
        checks.dueOutThroughout(bridge, 0, 0x84 ^ 0x55);
    }

    /** Nothing that the caller hands over or gets could be shared: numbers and booleans alone. */
    private static void allMemoryIsTheClasssOwn(Checks checks) {
        checks.begin("All memory is the class's own");
        for (Method method : ConferenceBridge.class.getMethods()) {
            if (method.getDeclaringClass() != ConferenceBridge.class) {
                continue;
            }
            checks.due(method + " answers a number or a boolean", method.getReturnType().isPrimitive(), true);
            for (Class<?> type : method.getParameterTypes()) {
                checks.due(method + " takes numbers and booleans", type.isPrimitive(), true);
            }
        }
    }

    /** Each object answers as one that is used alone. */
    private static void twoObjectsInTurns(Checks checks) {
        checks.begin("All memory is the class's own: two objects in turns");
        ConferenceBridge one = new ConferenceBridge();
        ConferenceBridge two = new ConferenceBridge();
        for (int turn = 0; turn < TURNS; turn++) {
            use(one, turn, 1);
            use(two, turn, -1);
        }
        checks.dueSame(one, usedAlone(1));
        checks.dueSame(two, usedAlone(-1));
    }

    private static ConferenceBridge usedAlone(int sign) {
        ConferenceBridge bridge = new ConferenceBridge();
        for (int turn = 0; turn < TURNS; turn++) {
            use(bridge, turn, sign);
        }
        return bridge;
    }

    /** Five calls a turn; what they do differs by the sign. */
    private static void use(ConferenceBridge bridge, int turn, int sign) {
        int party = turn * (4 + sign) % 8;
        bridge.ramp(party, sign * 700 * turn, 31 - sign);
        bridge.put((party + 1) % 8, turn % 8, 60 + sign * turn);
        bridge.gain(turn % 8, 300 + 100 * sign + turn);
        switch (turn % 3) {
            case 0: bridge.law(party, turn / 3 % 2); break;
            case 1: bridge.mute(party, sign > 0); break;
            default: bridge.speakers(sign > 0 ? 2 : 6); break;
        }
        bridge.mix();
    }

    private static void aNewObjectBesideOneInUse(Checks checks) {
        checks.begin("All memory is the class's own: a new object beside one in use");
        List<String> ofTheFirst = Observed.of(new ConferenceBridge());
        ConferenceBridge madeAhead = new ConferenceBridge();
        usedAlone(1);
        ConferenceBridge madeBehind = new ConferenceBridge();
        checks.due("one made ahead is as the first", Observed.of(madeAhead).equals(ofTheFirst), true);
        checks.due("one made behind is as the first", Observed.of(madeBehind).equals(ofTheFirst), true);
    }

    private static void questionsChangeNothing(Checks checks) {
        checks.begin("Promises 2, 3, 11, 12: a question changes nothing");
        ConferenceBridge bridge = usedAlone(1);
        for (int party = 0; party < 8; party++) {
            bridge.energy(party);
            bridge.decode(party % 2, 37 * party);
            bridge.encode(party % 2, 4001 * party - 16000);
            bridge.out(party, 7 - party);
        }
        checks.dueSame(bridge, usedAlone(1));
    }

    /** A second mixing with nothing told in between answers and leaves all as the first did. */
    private static void mixingChangesOnlyWhatGoesAndTheEnergies(Checks checks) {
        checks.begin("Promise 10: a mixing changes what goes and the energies alone");
        ConferenceBridge once = usedAlone(-1);
        ConferenceBridge oftener = usedAlone(-1);
        int speaking = once.mix();
        for (int time = 0; time < 20; time++) {
            checks.due("mix(), time " + time, oftener.mix(), speaking);
        }
        checks.dueSame(oftener, once);
    }

    private static void whatIsToldAgainChangesNothing(Checks checks) {
        checks.begin("Promises 4 to 9: what is told again changes nothing");
        ConferenceBridge once = toldAll(1);
        ConferenceBridge thrice = toldAll(3);
        checks.dueSame(thrice, once);
    }

    private static ConferenceBridge toldAll(int times) {
        ConferenceBridge bridge = new ConferenceBridge();
        for (int time = 0; time < times; time++) {
            bridge.speakers(5);
            for (int party = 0; party < 8; party++) {
                bridge.law(party, party / 2 % 2);
                bridge.gain(party, 128 * party);
                bridge.mute(party, party == 3);
                bridge.ramp(party, 5000 - 1500 * party, 77);
                bridge.put(party, party, 11 * party);
            }
        }
        return bridge;
    }
}
