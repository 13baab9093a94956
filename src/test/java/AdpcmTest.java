import java.util.Arrays;

/** Promises 4 (say), 6 (hear) and 8 (inner), of G.726. */
public final class AdpcmTest {
    public static void main(String[] args) {
        firstNumbers();
        firstSteps();
        for (int k = 2; k <= 5; k++) {
            knownRun(k);
            for (int seed = 1; seed <= 30; seed++) {
                said(k, Signals.voice(seed, 440));
                said(k, Signals.tones(seed, 440));
                said(k, Signals.noise(seed, 440));
                heard(k, Signals.codes(seed, 440, k));
                heard(k, Signals.stubborn(seed, 440, k));
            }
            for (int code = 0; code < 1 << k; code++) {
                int[] row = new int[440];
                Arrays.fill(row, code);
                heard(k, row);
            }
            for (int seed = 1; seed <= 12; seed++) {
                everyMoment(k, Signals.tones(seed, 440));
                everyMoment(k, Signals.voice(seed + 50, 440));
                longSaid(k, Signals.voice(seed + 100, 4000));
                longSaid(k, Signals.tones(seed + 100, 4000));
                longHeard(k, Signals.codes(seed + 100, 5000, k));
                longHeard(k, Signals.stubborn(seed + 100, 5000, k));
            }
            for (int length = 5; length < 30; length++) {
                heard(k, Signals.swinging((1 << (k - 1)) - 1, 1 << (k - 1), length, 440));
            }
            wrongCalls(k);
        }
        Check.end();
    }

    private static void firstNumbers() {
        for (int k = 2; k <= 5; k++) {
            VoiceDesk desk = new VoiceDesk();
            desk.open(0, k);
            for (int side = 0; side < 2; side++) {
                for (int what = 0; what < 24; what++) {
                    int due = what == 0 ? 34816 : what == 1 ? 544 : what >= 14 && what < 22 ? 32 : 0;
                    Check.same("first inner " + what, desk.inner(0, side, what), due);
                }
            }
        }
    }

    /** Reckoned by hand from the document: one code heard by a new line, and all its numbers then. */
    private static void firstSteps() {
        firstStep(5, 15, 188, new int[] {35495, 1223, 96, 96, 32, 0, 192, 128, 128, 431, 431, 0});
        firstStep(5, 16, -188, new int[] {35495, 1223, 96, 96, 32, 0, -192, -128, -128, -593, -593, 1});
        firstStep(5, 0, 0, new int[] {34816, 544, 0, 0, 32, 0, 0, 0, 0, 32, 32, 0});
        firstStep(5, 31, 0, new int[] {34816, 544, 0, 0, 32, 0, 0, 0, 0, 32, -992, 0});
        firstStep(2, 0, 12, new int[] {34816, 544, 0, 0, 32, 0, 192, 128, 128, 176, 176, 0});
    }

    /** Due: YL, Y, DMS, DML, AP, TD, A1, A2, each of B1 .. B6, S1, D1, PK1. */
    private static void firstStep(int k, int code, int sample, int[] due) {
        VoiceDesk desk = new VoiceDesk();
        desk.open(3, k);
        Check.same("k " + k + " first hear " + code, desk.hear(3, code), sample);
        for (int what = 0; what < 14; what++) {
            Check.same("k " + k + " first " + code + " inner " + what, desk.inner(3, 1, what), due[Math.min(what, 8)]);
        }
        Check.same("S1", desk.inner(3, 1, 14), due[9]);
        Check.same("S2", desk.inner(3, 1, 15), 32);
        Check.same("D1", desk.inner(3, 1, 16), due[10]);
        for (int what = 17; what < 22; what++) {
            Check.same("D2 ..", desk.inner(3, 1, what), 32);
        }
        Check.same("PK1", desk.inner(3, 1, 22), due[11]);
        Check.same("PK2", desk.inner(3, 1, 23), 0);
    }

    /** Sums of the codes that another maker's G.726 (SpanDSP) answered for the same samples. */
    private static void knownRun(int k) {
        long[] due = {0, 0, 398603329, 36829060, 691022249, 271854950};
        long sum = 0;
        for (int seed = 1; seed <= 10; seed++) {
            VoiceDesk desk = new VoiceDesk();
            desk.open(0, k);
            for (int x : Signals.voice(seed, 440)) {
                sum = (sum * 31 + desk.say(0, x)) % 1000000007L;
            }
        }
        Check.same("sum of codes, k " + k, sum, due[k]);
    }

    private static void checkNumbers(String run, VoiceDesk desk, int side, AdpcmModel model) {
        for (int what = 0; what < 24; what++) {
            Check.same(run + " inner " + what, desk.inner(1, side, what), model.number(what));
        }
    }

    private static void said(int k, int[] samples) {
        VoiceDesk desk = new VoiceDesk();
        desk.open(1, k);
        AdpcmModel model = new AdpcmModel(k);
        for (int i = 0; i < samples.length; i++) {
            Check.same("k " + k + " say " + i, desk.say(1, samples[i]), model.say(samples[i]));
        }
        checkNumbers("said, k " + k, desk, 0, model);
        checkNumbers("silent hearer, k " + k, desk, 1, new AdpcmModel(k));
    }

    private static void heard(int k, int[] codes) {
        VoiceDesk desk = new VoiceDesk();
        desk.open(1, k);
        AdpcmModel model = new AdpcmModel(k);
        for (int i = 0; i < codes.length; i++) {
            Check.same("k " + k + " hear " + i, desk.hear(1, codes[i]), model.hear(codes[i]));
        }
        checkNumbers("heard, k " + k, desk, 1, model);
        checkNumbers("silent speaker, k " + k, desk, 0, new AdpcmModel(k));
    }

    /** All inner numbers after each sample: a pack brings a new line to that moment. */
    private static void everyMoment(int k, int[] samples) {
        AdpcmModel model = new AdpcmModel(k);
        for (int i = 0; i < samples.length; i++) {
            model.say(samples[i]);
            VoiceDesk desk = new VoiceDesk();
            desk.open(1, k);
            Tapes.feedSamples(desk, Arrays.copyOf(samples, i + 1));
            desk.pack(1, true);
            checkNumbers("moment " + i + ", k " + k, desk, 0, model);
        }
    }

    private static void longSaid(int k, int[] samples) {
        VoiceDesk desk = new VoiceDesk();
        desk.open(1, k);
        AdpcmModel model = new AdpcmModel(k);
        for (int at = 0; at < samples.length; at += 500) {
            int[] piece = Arrays.copyOfRange(samples, at, at + 500);
            Tapes.feedSamples(desk, piece);
            desk.pack(1, false);
            for (int x : piece) {
                model.say(x);
            }
        }
        checkNumbers("long said, k " + k, desk, 0, model);
    }

    private static void longHeard(int k, int[] codes) {
        VoiceDesk desk = new VoiceDesk();
        desk.open(1, k);
        AdpcmModel model = new AdpcmModel(k);
        for (int at = 0; at < codes.length; at += 250) {
            int[] piece = Arrays.copyOfRange(codes, at, at + 250);
            Tapes.feedBytes(desk, Tapes.packed(piece, k, true));
            desk.unpack(1, true, 250);
            for (int code : piece) {
                model.hear(code);
            }
        }
        checkNumbers("long heard, k " + k, desk, 1, model);
    }

    private static void wrongCalls(int k) {
        VoiceDesk desk = new VoiceDesk();
        desk.open(1, k);
        AdpcmModel model = new AdpcmModel(k);
        model.say(3000);
        Check.holds("a code", desk.say(1, 3000) >= 0);
        for (int x : new int[] {-32769, 32768, Integer.MIN_VALUE, Integer.MAX_VALUE}) {
            Check.none("say " + x, desk.say(1, x));
        }
        for (int code : new int[] {-1, 1 << k, 255, Integer.MIN_VALUE, Integer.MAX_VALUE}) {
            Check.none("hear " + code, desk.hear(1, code));
        }
        for (int l : new int[] {-1, 0, 2, 4}) {
            Check.none("say on line " + l, desk.say(l, 0));
            Check.none("hear on line " + l, desk.hear(l, 0));
            Check.none("inner of line " + l, desk.inner(l, 0, 0));
        }
        for (int what : new int[] {-1, 24, 30, 60, Integer.MIN_VALUE, Integer.MAX_VALUE}) {
            Check.none("inner " + what, desk.inner(1, 0, what));
            Check.none("inner " + what, desk.inner(1, 1, what));
        }
        for (int side : new int[] {-1, 2, Integer.MIN_VALUE, Integer.MAX_VALUE}) {
            Check.none("inner of side " + side, desk.inner(1, side, 0));
        }
        Check.none("pair", desk.pair(1, 0, 0));
        Check.none("second", desk.second(1));
        checkNumbers("refused, k " + k, desk, 0, model);
        checkNumbers("refused, k " + k, desk, 1, new AdpcmModel(k));
    }
}
