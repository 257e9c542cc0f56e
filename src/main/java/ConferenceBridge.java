import java.util.NoSuchElementException;

/**
 * A bridge for telephone calls: samples in two codes, gains, the loudest picked,
 * each party hearing all of these but itself.
 */
public final class ConferenceBridge {
    public static final int NONE = -1;

    private static final int LAW_A = 0;
    private static final int LAW_MU = 1;

    private static final int LEAST_SAMPLE = -32768;
    private static final int GREATEST_SAMPLE = 32767;

    private static final int CODE_BITS = 0xFF;
    private static final int TOP_BIT = 0x80;
    private static final int A_TURNED_BITS = 0x55;
    private static final int MU_BIAS = 132;
    private static final int MU_GREATEST_SIZE = 32635;

    private static final int PARTIES = 8;
    private static final int PLACES = 8;
    private static final int GAIN_AS_IT_IS = 256;
    private static final int GREATEST_GAIN = 1024;
    private static final int SPEAKERS_AT_FIRST = 3;

    private final int[] laws = new int[PARTIES];
    private final int[] gains = new int[PARTIES];
    private final boolean[] silenced = new boolean[PARTIES];
    private final int[][] coming = new int[PARTIES][PLACES];
    private final int[][] going = new int[PARTIES][PLACES];
    private int mostSpeakers = SPEAKERS_AT_FIRST;

    // Rows that every mixing fills anew; kept here so that a mixing makes no objects.
    private final int[][] voices = new int[PARTIES][PLACES];
    private final long[] energies = new long[PARTIES];
    private final int[] sums = new int[PLACES];

    public ConferenceBridge() {
        for (int party = 0; party < PARTIES; party++) {
            laws[party] = party % 2 == 0 ? LAW_A : LAW_MU;
            gains[party] = GAIN_AS_IT_IS;
            int silence = codeOf(laws[party], 0);
            for (int k = 0; k < PLACES; k++) {
                coming[party][k] = silence;
                going[party][k] = silence;
            }
        }
    }

    public int decode(int law, int code) throws NoSuchElementException {
        if (!isLaw(law)) {
            throw new NoSuchElementException();
        }
        return sampleOf(law, code & CODE_BITS);
    }

    public int encode(int law, int sample) {
        return isLaw(law) ? codeOf(law, saturated(sample)) : NONE;
    }

    public boolean law(int party, int law) {
        if (!isParty(party) || !isLaw(law)) {
            return false;
        }
        laws[party] = law;
        return true;
    }

    public boolean gain(int party, int gain) {
        if (!isParty(party) || gain < 0 || gain > GREATEST_GAIN) {
            return false;
        }
        gains[party] = gain;
        return true;
    }

    public boolean mute(int party, boolean muted) {
        if (!isParty(party)) {
            return false;
        }
        silenced[party] = muted;
        return true;
    }

    public boolean speakers(int n) {
        if (n < 1 || n > PARTIES) {
            return false;
        }
        mostSpeakers = n;
        return true;
    }

    public boolean put(int party, int k, int code) {
        if (!isParty(party) || !isPlace(k)) {
            return false;
        }
        coming[party][k] = code & CODE_BITS;
        return true;
    }

    public boolean ramp(int party, int from, int step) {
        if (!isParty(party)) {
            return false;
        }
        for (int k = 0; k < PLACES; k++) {
            // As a long: an int would wrap round before it could be saturated.
            long value = from + (long) k * step;
            coming[party][k] = codeOf(laws[party], saturated(value));
        }
        return true;
    }

    public int mix() {
        for (int party = 0; party < PARTIES; party++) {
            hear(party);
        }
        int chosen = chooseSpeakers();
        sumUp(chosen);
        for (int party = 0; party < PARTIES; party++) {
            answer(party, speaks(chosen, party));
        }
        return chosen;
    }

    public int out(int party, int k) {
        return isParty(party) && isPlace(k) ? going[party][k] : NONE;
    }

    public long energy(int party) throws NoSuchElementException {
        if (!isParty(party)) {
            throw new NoSuchElementException();
        }
        return energies[party];
    }

    private void hear(int party) {
        long energy = 0;
        for (int k = 0; k < PLACES; k++) {
            int sample = sampleOf(laws[party], coming[party][k]);
            int voice = saturated(Math.floorDiv(sample * gains[party], GAIN_AS_IT_IS));
            voices[party][k] = voice;
            energy += (long) voice * voice;
        }
        energies[party] = energy;
    }

    /** The set of speakers, as the bits of their numbers. */
    private int chooseSpeakers() {
        int chosen = 0;
        for (int turn = 0; turn < mostSpeakers; turn++) {
            int party = loudestBeside(chosen);
            if (party == NONE) {
                break;
            }
            chosen |= 1 << party;
        }
        return chosen;
    }

    private int loudestBeside(int chosen) {
        int loudest = NONE;
        // From 0 and only upwards: no party without energy, and of equal ones the lower number.
        long most = 0;
        for (int party = 0; party < PARTIES; party++) {
            if (!silenced[party] && !speaks(chosen, party) && energies[party] > most) {
                loudest = party;
                most = energies[party];
            }
        }
        return loudest;
    }

    private void sumUp(int chosen) {
        for (int k = 0; k < PLACES; k++) {
            int sum = 0;
            for (int party = 0; party < PARTIES; party++) {
                if (speaks(chosen, party)) {
                    sum += voices[party][k];
                }
            }
            sums[k] = sum;
        }
    }

    private void answer(int party, boolean speaking) {
        for (int k = 0; k < PLACES; k++) {
            // The sums are not saturated yet, so that taking the own voice out leaves the others' sum.
            int others = speaking ? sums[k] - voices[party][k] : sums[k];
            going[party][k] = codeOf(laws[party], saturated(others));
        }
    }

    private static boolean speaks(int chosen, int party) {
        return ((chosen >> party) & 1) != 0;
    }

    private static boolean isLaw(int law) {
        return law == LAW_A || law == LAW_MU;
    }

    private static boolean isParty(int party) {
        return party >= 0 && party < PARTIES;
    }

    private static boolean isPlace(int k) {
        return k >= 0 && k < PLACES;
    }

    private static int saturated(long value) {
        return (int) Math.max(LEAST_SAMPLE, Math.min(GREATEST_SAMPLE, value));
    }

    private static int sampleOf(int law, int code) {
        return law == LAW_A ? sampleByA(code) : sampleByMu(code);
    }

    private static int codeOf(int law, int sample) {
        return law == LAW_A ? codeByA(sample) : codeByMu(sample);
    }

    private static int sampleByA(int code) {
        int bits = code ^ A_TURNED_BITS;
        int s = segmentIn(bits);
        int m = 16 * stepIn(bits);
        int size = s == 0 ? m + 8 : (m + 264) << (s - 1);
        return (bits & TOP_BIT) != 0 ? size : -size;
    }

    private static int codeByA(int sample) {
        int p = (sample < 0 ? -1 - sample : sample) / 16;
        int s = p < 16 ? 0 : highestPlace(p) - 4 + 1;
        int m = (s == 0 ? p : p >> (s - 1)) & 15;
        int top = sample < 0 ? 0 : TOP_BIT;
        return (top | (s << 4) | m) ^ A_TURNED_BITS;
    }

    private static int sampleByMu(int code) {
        int bits = code ^ CODE_BITS;
        int size = ((8 * stepIn(bits) + MU_BIAS) << segmentIn(bits)) - MU_BIAS;
        return (bits & TOP_BIT) != 0 ? -size : size;
    }

    private static int codeByMu(int sample) {
        int v = Math.min(Math.abs(sample), MU_GREATEST_SIZE) + MU_BIAS;
        int s = highestPlace(v) - 7;
        int m = (v >> (s + 3)) & 15;
        int top = sample < 0 ? TOP_BIT : 0;
        return (top | (s << 4) | m) ^ CODE_BITS;
    }

    private static int segmentIn(int bits) {
        return (bits >> 4) & 7;
    }

    private static int stepIn(int bits) {
        return bits & 15;
    }

    private static int highestPlace(int value) {
        return 31 - Integer.numberOfLeadingZeros(value);
    }
}
