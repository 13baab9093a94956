/** Promises 4 (say), 6 (hear) and 16 (law), of G.711. */
public final class LawTest {
    public static void main(String[] args) {
        knownAnswers();
        muEnds();
        aEnds();
        everySample(0);
        everySample(1);
        everyCode(0);
        everyCode(1);
        wrongCalls();
        Check.end();
    }

    private static void knownAnswers() {
        VoiceDesk desk = new VoiceDesk();
        desk.open(0, 0);
        desk.open(1, 1);
        int[][] mu = {{0, 255}, {3, 255}, {4, 254}, {11, 254}, {12, 253}, {-1, 126}, {-8, 126}, {-9, 125}, {32767, 128}, {-32768, 0}};
        for (int[] row : mu) {
            Check.same("mu say " + row[0], desk.say(0, row[0]), row[1]);
        }
        int[][] a = {{0, 213}, {15, 213}, {16, 212}, {-1, 85}, {-16, 85}, {-17, 84}, {32767, 170}, {-32768, 42}};
        for (int[] row : a) {
            Check.same("A say " + row[0], desk.say(1, row[0]), row[1]);
        }
        int[][] muHeard = {{255, 0}, {127, 0}, {0, -32124}, {128, 32124}, {254, 8}, {126, -8}};
        for (int[] row : muHeard) {
            Check.same("mu hear " + row[0], desk.hear(0, row[0]), row[1]);
        }
        int[][] aHeard = {{213, 8}, {85, -8}, {170, 32256}, {42, -32256}};
        for (int[] row : aHeard) {
            Check.same("A hear " + row[0], desk.hear(1, row[0]), row[1]);
        }
    }

    /** By hand from the document: both sides of "at most 8158", of SIGN and of each SEGMENT's end. */
    private static void muEnds() {
        VoiceDesk desk = new VoiceDesk();
        desk.open(2, 0);
        for (int x : new int[] {32635, 32636, 32767}) {
            Check.same("mu say " + x, desk.say(2, x), 128);
        }
        for (int x : new int[] {-32632, -32633, -32768}) {
            Check.same("mu say " + x, desk.say(2, x), 0);
        }
        for (int n = 0; n < 7; n++) {
            // with 33 more, the amount x >> 2 is just 64 * 2 to the n here
            int x = 4 * ((64 << n) - 33);
            Check.same("mu say " + (x - 1), desk.say(2, x - 1), 240 - 16 * n);
            Check.same("mu say " + x, desk.say(2, x), 239 - 16 * n);
            Check.same("mu say " + (4 - x), desk.say(2, 4 - x), 112 - 16 * n);
            Check.same("mu say " + (3 - x), desk.say(2, 3 - x), 111 - 16 * n);
        }
    }

    /** By hand from the document: both sides of 0 and of the end of each n. */
    private static void aEnds() {
        VoiceDesk desk = new VoiceDesk();
        desk.open(2, 1);
        for (int n = 0; n < 7; n++) {
            int x = 256 << n;
            Check.same("A say " + (x - 1), desk.say(2, x - 1), (16 * n + 15) ^ 213);
            Check.same("A say " + x, desk.say(2, x), (16 * n + 16) ^ 213);
            Check.same("A say " + -x, desk.say(2, -x), (16 * n + 15) ^ 85);
            Check.same("A say " + (-x - 1), desk.say(2, -x - 1), (16 * n + 16) ^ 85);
        }
        // n 0 and 1 have steps of sixteen samples, n 2 the first longer ones
        int[][] rows = {
            {240, 218}, {255, 218}, {256, 197}, {271, 197}, {272, 196}, {511, 202}, {512, 245}, {543, 245}, {544, 244}
        };
        for (int[] row : rows) {
            Check.same("A say " + row[0], desk.say(2, row[0]), row[1]);
        }
    }

    /** Each sample's code, and from all of them the edges that law() tells. */
    private static void everySample(int kind) {
        int[] least = new int[256];
        int[] greatest = new int[256];
        java.util.Arrays.fill(least, VoiceDesk.NONE);
        java.util.Arrays.fill(greatest, VoiceDesk.NONE);
        VoiceDesk desk = null;
        for (int x = -32768; x <= 32767; x++) {
            if (x % 500 == 0 || desk == null) {
                desk = new VoiceDesk();
                desk.open(3, kind);
            }
            int code = LawModel.code(kind, x);
            Check.same("kind " + kind + " say " + x, desk.say(3, x), code);
            least[code] = least[code] == VoiceDesk.NONE ? x : least[code];
            greatest[code] = x;
        }
        for (int code = 0; code < 256; code++) {
            String call = "law(" + kind + ", " + code + ", ";
            desk = new VoiceDesk();
            Check.same(call + "0)", desk.law(kind, code, 0), least[code]);
            Check.same(call + "1)", desk.law(kind, code, 1), greatest[code]);
        }
    }

    private static void everyCode(int kind) {
        VoiceDesk desk = new VoiceDesk();
        desk.open(0, kind);
        for (int code = 0; code < 256; code++) {
            int sample = LawModel.sample(kind, code);
            Check.same("kind " + kind + " hear " + code, desk.hear(0, code), sample);
            int again = new VoiceDesk().law(kind, code, 2);
            Check.same("law(" + kind + ", " + code + ", 2)", again, LawModel.code(kind, sample));
            Check.same("only the other 0 changes", again == code, !(kind == 0 && code == 127));
        }
    }

    private static void wrongCalls() {
        VoiceDesk desk = new VoiceDesk();
        desk.open(0, 0);
        desk.open(1, 1);
        int[] far = {Integer.MIN_VALUE, Integer.MAX_VALUE};
        for (int l = 0; l < 2; l++) {
            for (int x : new int[] {-32769, 32768, far[0], far[1]}) {
                Check.none("say " + x, desk.say(l, x));
            }
            for (int code : new int[] {-1, 256, far[0], far[1]}) {
                Check.none("hear " + code, desk.hear(l, code));
                for (int what = 0; what < 3; what++) {
                    Check.none("law of code " + code, desk.law(l, code, what));
                }
            }
            for (int what : new int[] {-1, 3, far[0], far[1]}) {
                Check.none("law of what " + what, desk.law(l, 0, what));
            }
            Check.none("pair", desk.pair(l, 0, 0));
            Check.none("second", desk.second(l));
            Check.none("inner", desk.inner(l, 0, 0));
            Check.none("inner", desk.inner(l, 1, 1));
        }
        for (int kind : new int[] {-1, 2, 5, 6, 8, 9, far[0], far[1]}) {
            for (int what = 0; what < 3; what++) {
                Check.none("law of kind " + kind, desk.law(kind, 0, what));
            }
        }
        for (int l : new int[] {-1, 2, 3, 4, far[0], far[1]}) {
            Check.none("say on line " + l, desk.say(l, 0));
            Check.none("hear on line " + l, desk.hear(l, 0));
        }
    }
}
