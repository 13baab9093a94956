/** Every refused call does nothing: a twin that never got it answers alike ever after. No call throws. */
public final class TwinTest {
    private static long state;

    public static void main(String[] args) {
        for (int seed = 1; seed <= 400; seed++) {
            state = seed * 7919L;
            run(seed);
        }
        Check.end();
    }

    private static int next(int bound) {
        state = state * 6364136223846793005L + 1442695040888963407L;
        return (int) ((state >>> 33) % bound);
    }

    private static int any(int least, int most) {
        int[] far = {Integer.MIN_VALUE, Integer.MAX_VALUE, -32769, 32768, -1, 256, 1000, 1001};
        return next(12) == 0 ? far[next(far.length)] : least + next(most - least + 1);
    }

    private static void run(int seed) {
        VoiceDesk desk = new VoiceDesk();
        VoiceDesk twin = new VoiceDesk();
        for (int call = 0; call < 512; call++) {
            int what = next(16);
            int[] a = {any(0, 3), any(0, 8), any(-32768, 32767), any(0, 255), any(0, 83), any(0, 40)};
            int got = answer(desk, what, a);
            if (got != VoiceDesk.NONE || isQuestion(what)) {
                Check.same("seed " + seed + " call " + call + " of " + what, answer(twin, what, a), got);
            }
        }
    }

    private static boolean isQuestion(int what) {
        return what == 1 || what == 5 || what == 6 || what == 10 || what >= 14;
    }

    /** NONE for a refused open(), too. */
    private static int answer(VoiceDesk desk, int what, int[] a) {
        switch (what) {
            case 0:
                return a[5] % 3 == 0 ? opened(desk, a[0], a[1]) : desk.kind(a[0]);
            case 1:
                return desk.kind(a[0]);
            case 2:
                return desk.say(a[0], a[2]);
            case 3:
                return desk.pair(a[0], a[2], a[3]);
            case 4:
                return desk.hear(a[0], a[3] % 2 == 0 ? a[3] : a[3] >> 4);
            case 5:
                return desk.second(a[0]);
            case 6:
                return desk.inner(a[0], a[3] & 1, a[4]);
            case 7:
                return desk.feed(a[2], a[3], a[4] << 20, -a[3], a[2] * a[3]);
            case 8:
                return desk.end(a[5]);
            case 9:
                return desk.take();
            case 10:
                return desk.out(a[5]);
            case 11:
                return desk.pack(a[0], a[3] > 128);
            case 12:
                return desk.unpack(a[0], a[3] > 128, a[5]);
            case 13:
                return desk.pass(a[0], a[1] % 4, a[3] >> (a[2] & 7));
            case 14:
                return desk.law(a[1] & 1, a[3], a[5] & 3);
            default:
                return desk.inner(a[0], 1, a[5]);
        }
    }

    private static int opened(VoiceDesk desk, int l, int kind) {
        return desk.open(l, kind) ? 1 : VoiceDesk.NONE;
    }
}
