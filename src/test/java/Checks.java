import java.util.List;
import java.util.NoSuchElementException;

/** What the tests share: counting wrong answers, and ending with exit code 1 if there was one. */
final class Checks {
    static final int[] NO_PARTIES = {-1, 8, 9, 256, Integer.MIN_VALUE, Integer.MAX_VALUE};
    static final int[] NO_PLACES = NO_PARTIES;
    static final int[] NO_LAWS = {-1, 2, 3, 256, 257, Integer.MIN_VALUE, Integer.MAX_VALUE};

    /** A call that may throw. */
    interface Call {
        long answer();
    }

    private int wrong = 0;
    private String where = "";

    /** All that is told from now on belongs to this case. */
    void begin(String boundary) {
        where = boundary + ": ";
    }

    void due(String call, long got, long want) {
        if (got != want) {
            tell(call + " answered " + got + ", due is " + want);
        }
    }

    void due(String call, boolean got, boolean want) {
        if (got != want) {
            tell(call + " answered " + got + ", due is " + want);
        }
    }

    void dueNoSuchElement(String call, Call made) {
        long got;
        try {
            got = made.answer();
        } catch (NoSuchElementException thrown) {
            if (thrown.getClass() != NoSuchElementException.class) {
                tell(call + " threw " + thrown.getClass() + ", due is a NoSuchElementException itself");
            }
            return;
        }
        tell(call + " answered " + got + ", due is a NoSuchElementException");
    }

    /** Both objects are in the same state, as far as calls can tell; both are changed by looking. */
    void dueSame(ConferenceBridge got, ConferenceBridge want) {
        List<String> seen = Observed.of(got);
        List<String> wanted = Observed.of(want);
        for (int i = 0; i < wanted.size(); i++) {
            if (!seen.get(i).equals(wanted.get(i))) {
                tell("the state shows " + seen.get(i) + ", due is " + wanted.get(i));
            }
        }
    }

    private void tell(String fault) {
        wrong++;
        System.out.println(where + fault);
    }

    /** All eight codes that go to a party. */
    void dueOut(ConferenceBridge bridge, int party, int... codes) {
        for (int k = 0; k < 8; k++) {
            due("out(" + party + ", " + k + ")", bridge.out(party, k), codes[k]);
        }
    }

    /** Eight times the same code goes to a party. */
    void dueOutThroughout(ConferenceBridge bridge, int party, int code) {
        dueOut(bridge, party, code, code, code, code, code, code, code, code);
    }

    void end() {
        System.out.println(wrong == 0 ? "all answers are as due" : wrong + " answers are not as due");
        if (wrong != 0) {
            System.exit(1);
        }
    }
}
