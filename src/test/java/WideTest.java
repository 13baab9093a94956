import java.util.Arrays;

/** Promises 5 (pair), 6 (hear), 7 (second) and 8 (inner), of G.722. */
public final class WideTest {
    private static final int[] WAYS = {64, 56, 48};

    public static void main(String[] args) {
        knownRun();
        firstSteps();
        for (int kind = 6; kind <= 8; kind++) {
            firstNumbers(kind);
            for (int seed = 1; seed <= 20; seed++) {
                said(kind, Signals.voice(seed, 680));
                said(kind, Signals.tones(seed, 680));
                heard(kind, Signals.codes(seed, 190, 8));
                heard(kind, Signals.stubborn(seed, 190, 8));
                heard(kind, spoken(seed));
            }
            for (int code = 0; code < 256; code++) {
                int[] row = new int[150];
                Arrays.fill(row, code);
                heard(kind, row);
            }
            for (int seed = 1; seed <= 10; seed++) {
                longSaid(kind, Signals.voice(seed + 100, 3500));
                longSaid(kind, Signals.tones(seed + 100, 3500));
                longSaid(kind, slowTone(seed, 3500));
                longHeard(kind, Signals.codes(seed + 100, 5000, 8));
                longHeard(kind, Signals.stubborn(seed + 100, 5000, 8));
            }
            for (int length = 5; length < 30; length++) {
                heard(kind, Signals.swinging(160, 4, length, 190));
                longHeard(kind, Signals.swinging(160, 4, length, 500));
            }
            wrongCalls(kind);
        }
        for (int seed = 1; seed <= 200; seed++) {
            said(6, Signals.noise(seed, 680));
        }
        for (int seed = 1; seed <= 20; seed++) {
            everyMoment(Signals.voice(seed + 50, 500));
            everyMoment(slowTone(seed, 500));
        }
        Check.end();
    }

    private static void firstNumbers(int kind) {
        VoiceDesk desk = new VoiceDesk();
        desk.open(2, kind);
        for (int side = 0; side < 2; side++) {
            for (int what = 0; what < 84; what++) {
                boolean there = what < 23 || (what >= 30 && what < 53) || what >= 60;
                int due = !there ? VoiceDesk.NONE : what == 1 ? 32 : what == 31 ? 8 : 0;
                Check.same("first inner " + what, desk.inner(2, side, what), due);
            }
        }
        Check.same("second ahead of any", desk.second(2), 0);
    }

    /** Reckoned by hand from the document: one code heard by a new line. */
    private static void firstSteps() {
        int[] low4 = {3042, 88, 0, 0, 0, -192, -128, -128, -20};
        int[] high4 = {798, 8, 0, 0, 0, -192, -128, -128, -2};
        firstStep(4, -27, -23, low4, high4);
        // NB would be -60 and -214; what is foreseen of a d of 0 leaves Bi alone
        int[] low64 = {0, 32, 0, 0, 0, 192, 128, 0, 0};
        int[] high64 = {0, 8, 0, 0, 0, -192, -128, -128, -1};
        firstStep(64, -2, 0, low64, high64);
    }

    /** Due of a band: NB, DET, S, SP, SZ, A1, A2, each of B1 .. B6, and R1, P1, D1, which are alike. */
    private static void firstStep(int code, int x22, int x23, int[] low, int[] high) {
        VoiceDesk desk = new VoiceDesk();
        desk.open(3, 6);
        Check.same("first hear " + code, desk.hear(3, code), 3 * x23 >> 11);
        Check.same("first second " + code, desk.second(3), -11 * x22 >> 11);
        for (int band = 0; band < 2; band++) {
            int[] due = band == 0 ? low : high;
            for (int what = 0; what < 23; what++) {
                int number = what < 13 ? due[Math.min(what, 7)] : what == 13 || what == 15 || what == 17 ? due[8] : 0;
                String call = "first " + code + " inner " + (30 * band + what);
                Check.same(call, desk.inner(3, 1, 30 * band + what), number);
            }
        }
        for (int what = 60; what < 84; what++) {
            int number = what == 82 ? x22 : what == 83 ? x23 : 0;
            Check.same("first " + code + " inner " + what, desk.inner(3, 1, what), number);
        }
    }

    /** The sum of the codes that another maker's G.722 (SpanDSP) answered for the same samples. */
    private static void knownRun() {
        long sum = 0;
        for (int seed = 1; seed <= 10; seed++) {
            VoiceDesk desk = new VoiceDesk();
            desk.open(0, 6 + seed % 3);
            int[] samples = Signals.voice(seed, 880);
            for (int i = 0; i < samples.length; i += 2) {
                sum = (sum * 31 + desk.pair(0, samples[i], samples[i + 1])) % 1000000007L;
            }
        }
        Check.same("sum of codes", sum, 848448732);
    }

    private static int[] spoken(int seed) {
        int[] samples = Signals.voice(seed, 380);
        WideModel model = new WideModel();
        int[] codes = new int[190];
        for (int i = 0; i < codes.length; i++) {
            codes[i] = model.pair(samples[2 * i], samples[2 * i + 1]);
        }
        return codes;
    }

    private static void checkNumbers(String run, VoiceDesk desk, int side, WideModel model) {
        for (int what = 0; what < 84; what++) {
            Check.same(run + " inner " + what, desk.inner(2, side, what), model.number(what));
        }
    }

    private static void said(int kind, int[] samples) {
        VoiceDesk desk = new VoiceDesk();
        desk.open(2, kind);
        WideModel model = new WideModel();
        for (int i = 0; i < samples.length; i += 2) {
            int due = model.pair(samples[i], samples[i + 1]);
            Check.same("kind " + kind + " pair " + i, desk.pair(2, samples[i], samples[i + 1]), due);
        }
        checkNumbers("said, kind " + kind, desk, 0, model);
        checkNumbers("silent hearer, kind " + kind, desk, 1, new WideModel());
        Check.same("second of a silent hearer", desk.second(2), 0);
    }

    private static void heard(int kind, int[] codes) {
        VoiceDesk desk = new VoiceDesk();
        desk.open(2, kind);
        WideModel model = new WideModel();
        for (int i = 0; i < codes.length; i++) {
            Check.same("kind " + kind + " hear " + i, desk.hear(2, codes[i]), model.hear(codes[i], WAYS[kind - 6]));
            Check.same("kind " + kind + " second " + i, desk.second(2), model.second());
        }
        checkNumbers("heard, kind " + kind, desk, 1, model);
    }

    /** A steady tone, which drives A1 and A2 of a band to their ends. */
    private static int[] slowTone(int seed, int count) {
        int[] row = new int[count];
        for (int i = 0; i < count; i++) {
            row[i] = Signals.sample(1500 * seed * StrictMath.sin(0.06 * seed * i));
        }
        return row;
    }

    /** All inner numbers after each pair: a pack brings a new line to that moment. */
    private static void everyMoment(int[] samples) {
        WideModel model = new WideModel();
        for (int i = 0; i < samples.length; i += 2) {
            model.pair(samples[i], samples[i + 1]);
            VoiceDesk desk = new VoiceDesk();
            desk.open(2, 6);
            Tapes.feedSamples(desk, Arrays.copyOf(samples, i + 2));
            desk.pack(2, true);
            checkNumbers("moment " + i, desk, 0, model);
        }
    }

    private static void longSaid(int kind, int[] samples) {
        VoiceDesk desk = new VoiceDesk();
        desk.open(2, kind);
        WideModel model = new WideModel();
        for (int at = 0; at < samples.length; at += 500) {
            int[] piece = Arrays.copyOfRange(samples, at, at + 500);
            Tapes.feedSamples(desk, piece);
            desk.pack(2, false);
            for (int i = 0; i < piece.length; i += 2) {
                model.pair(piece[i], piece[i + 1]);
            }
        }
        checkNumbers("long said, kind " + kind, desk, 0, model);
    }

    private static void longHeard(int kind, int[] codes) {
        VoiceDesk desk = new VoiceDesk();
        desk.open(2, kind);
        WideModel model = new WideModel();
        for (int at = 0; at < codes.length; at += 250) {
            int[] piece = Arrays.copyOfRange(codes, at, at + 250);
            Tapes.feedBytes(desk, piece);
            desk.unpack(2, true, 250);
            for (int code : piece) {
                model.hear(code, WAYS[kind - 6]);
            }
        }
        checkNumbers("long heard, kind " + kind, desk, 1, model);
        Check.same("long heard, second", desk.second(2), model.second());
    }

    private static void wrongCalls(int kind) {
        VoiceDesk desk = new VoiceDesk();
        desk.open(2, kind);
        WideModel speaker = new WideModel();
        WideModel hearer = new WideModel();
        Check.same("pair", desk.pair(2, -32768, 32767), speaker.pair(-32768, 32767));
        Check.same("hear", desk.hear(2, 33), hearer.hear(33, WAYS[kind - 6]));
        for (int x : new int[] {-32769, 32768, Integer.MIN_VALUE, Integer.MAX_VALUE}) {
            Check.none("pair " + x + " first", desk.pair(2, x, 0));
            Check.none("pair " + x + " second", desk.pair(2, 0, x));
        }
        Check.none("say", desk.say(2, 0));
        for (int code : new int[] {-1, 256, Integer.MIN_VALUE, Integer.MAX_VALUE}) {
            Check.none("hear " + code, desk.hear(2, code));
        }
        for (int l : new int[] {-1, 0, 3, 4}) {
            Check.none("pair on line " + l, desk.pair(l, 0, 0));
            Check.none("second of line " + l, desk.second(l));
        }
        for (int what : new int[] {-1, 23, 29, 53, 59, 84, Integer.MIN_VALUE, Integer.MAX_VALUE}) {
            Check.none("inner " + what, desk.inner(2, 0, what));
            Check.none("inner " + what, desk.inner(2, 1, what));
        }
        for (int side : new int[] {-1, 2, Integer.MIN_VALUE, Integer.MAX_VALUE}) {
            Check.none("inner of side " + side, desk.inner(2, side, 0));
        }
        Check.same("second stays", desk.second(2), hearer.second());
        checkNumbers("refused, kind " + kind, desk, 0, speaker);
        checkNumbers("refused, kind " + kind, desk, 1, hearer);
    }
}
