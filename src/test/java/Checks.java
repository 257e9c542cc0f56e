import java.util.NoSuchElementException;

/** What the tests share: counting wrong answers, and ending with exit code 1 if there was one. */
final class Checks {
    static final int[] NO_PARTIES = {-1, 8, 9, 256, Integer.MIN_VALUE, Integer.MAX_VALUE};
    static final int[] NO_PLACES = NO_PARTIES;
    static final int[] NO_LAWS = {-1, 2, 3, 256, 257, Integer.MIN_VALUE, Integer.MAX_VALUE};

    /** A call that may throw. */
    interface Call {
        long answer();
    }

    private int wrong = 0;

    void due(String call, long got, long want) {
        if (got != want) {
            wrong++;
            System.out.println(call + " answered " + got + ", due is " + want);
        }
    }

    void due(String call, boolean got, boolean want) {
        if (got != want) {
            wrong++;
            System.out.println(call + " answered " + got + ", due is " + want);
        }
    }

    void dueNoSuchElement(String call, Call made) {
        try {
            long got = made.answer();
            wrong++;
            System.out.println(call + " answered " + got + ", due is a NoSuchElementException");
        } catch (NoSuchElementException expected) {
            return;
        }
    }

    /** All eight codes that go to a party. */
    void dueOut(ConferenceBridge bridge, int party, int... codes) {
        for (int k = 0; k < 8; k++) {
            due("out(" + party + ", " + k + ")", bridge.out(party, k), codes[k]);
        }
    }

    /** Eight times the same code goes to a party. */
    void dueOutThroughout(ConferenceBridge bridge, int party, int code) {
        dueOut(bridge, party, code, code, code, code, code, code, code, code);
    }

    void end() {
        System.out.println(wrong == 0 ? "all answers are as due" : wrong + " answers are not as due");
        if (wrong != 0) {
            System.exit(1);
        }
    }
}
