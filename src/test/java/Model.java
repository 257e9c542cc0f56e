import java.util.ArrayList;
import java.util.Arrays;
import java.util.Comparator;
import java.util.List;
import java.util.NoSuchElementException;

/**
 * A second bridge, written from the document in another way, to hold the program against:
 * codes are found by searching the table of what all codes mean, speakers by sorting.
 */
final class Model {
    private static final class Party {
        int law;
        int gain = 256;
        boolean muted;
        int[] came = new int[8];
        int[] goes = new int[8];
        int[] voice = new int[8];
        long energy;
    }

    private final Party[] parties = new Party[8];
    private int most = 3;

    Model() {
        for (int i = 0; i < 8; i++) {
            Party p = new Party();
            p.law = i & 1;
            Arrays.fill(p.came, i % 2 == 1 ? 255 : 213);
            p.goes = p.came.clone();
            parties[i] = p;
        }
    }

    private static boolean no(int number, int count) {
        return number < 0 || number >= count;
    }

    /** The size that the segment and step mean, whatever the sign. */
    private static int size(int law, int s, int m) {
        if (law == 1) {
            return (8 * m + 132) * power(s) - 132;
        }
        return s == 0 ? 16 * m + 8 : (16 * m + 264) * power(s - 1);
    }

    private static int power(int n) {
        return n == 0 ? 1 : 2 * power(n - 1);
    }

    /** The least size whose code has this segment and step: half a step below what it means. */
    private static int leastSize(int law, int s, int m) {
        int halfStep = law == 1 ? 4 * power(s) : 8 * power(s == 0 ? 0 : s - 1);
        return size(law, s, m) - halfStep;
    }

    static int decode(int law, int code) {
        if (no(law, 2)) {
            throw new NoSuchElementException();
        }
        int low = Math.floorMod(code, 256);
        int turned = law == 1 ? 255 - low : low ^ 85;
        int size = size(law, turned / 16 % 8, turned % 16);
        boolean below = law == 1 ? turned >= 128 : turned < 128;
        return below ? -size : size;
    }

    static int encode(int law, long sample) {
        if (no(law, 2)) {
            return -1;
        }
        long x = saturate(sample);
        // A's codes below 0 start with the sample -1, mu's with the size 1.
        long size = x >= 0 ? x : law == 0 ? -x - 1 : -x;
        int found = 0;
        for (int place = 0; place < 128; place++) {
            if (leastSize(law, place / 16, place % 16) <= size) {
                found = place;
            }
        }
        if (law == 1) {
            return (x < 0 ? 127 : 255) - found;
        }
        return (found ^ 85) + (x < 0 ? 0 : 128);
    }

    private static long saturate(long x) {
        return x > 32767 ? 32767 : x < -32768 ? -32768 : x;
    }

    boolean law(int party, int law) {
        if (no(party, 8) || no(law, 2)) {
            return false;
        }
        parties[party].law = law;
        return true;
    }

    boolean gain(int party, int gain) {
        if (no(party, 8) || no(gain, 1025)) {
            return false;
        }
        parties[party].gain = gain;
        return true;
    }

    boolean mute(int party, boolean muted) {
        if (no(party, 8)) {
            return false;
        }
        parties[party].muted = muted;
        return true;
    }

    boolean speakers(int n) {
        if (n == 0 || no(n, 9)) {
            return false;
        }
        most = n;
        return true;
    }

    boolean put(int party, int k, int code) {
        if (no(party, 8) || no(k, 8)) {
            return false;
        }
        parties[party].came[k] = Math.floorMod(code, 256);
        return true;
    }

    boolean ramp(int party, int from, int step) {
        if (no(party, 8)) {
            return false;
        }
        long sample = from;
        for (int k = 0; k < 8; k++) {
            parties[party].came[k] = encode(parties[party].law, sample);
            sample += step;
        }
        return true;
    }

    int mix() {
        List<Integer> able = new ArrayList<>();
        for (int i = 0; i < 8; i++) {
            Party p = parties[i];
            p.energy = 0;
            for (int k = 0; k < 8; k++) {
                double exact = (double) decode(p.law, p.came[k]) * p.gain / 256;
                p.voice[k] = (int) saturate((long) Math.floor(exact));
                p.energy += (long) p.voice[k] * p.voice[k];
            }
            if (!p.muted && p.energy > 0) {
                able.add(i);
            }
        }
        able.sort(Comparator.comparingLong((Integer i) -> -parties[i].energy).thenComparing(i -> i));
        List<Integer> speakers = able.subList(0, Math.min(most, able.size()));
        int answer = 0;
        for (int i = 0; i < 8; i++) {
            answer += speakers.contains(i) ? (int) Math.pow(2, i) : 0;
            for (int k = 0; k < 8; k++) {
                long sum = 0;
                for (int other : speakers) {
                    sum += other == i ? 0 : parties[other].voice[k];
                }
                parties[i].goes[k] = encode(parties[i].law, sum);
            }
        }
        return answer;
    }

    int out(int party, int k) {
        return no(party, 8) || no(k, 8) ? -1 : parties[party].goes[k];
    }

    long energy(int party) {
        if (no(party, 8)) {
            throw new NoSuchElementException();
        }
        return parties[party].energy;
    }
}
