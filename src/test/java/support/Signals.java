/** Rows of samples and codes that are the same on every machine. */
final class Signals {
    private long state;

    private Signals(long seed) {
        state = seed * 2654435761L + 12345;
    }

    private int next(int bound) {
        state = state * 6364136223846793005L + 1442695040888963407L;
        return (int) ((state >>> 33) % bound);
    }

    static int sample(double v) {
        return (int) Math.max(-32768, Math.min(32767, Math.floor(v)));
    }

    /** Pieces of tones, steps, noise and silence, quiet and loud. */
    static int[] voice(int seed, int count) {
        Signals s = new Signals(seed);
        int[] amounts = {1, 8, 60, 400, 2500, 9000, 20000, 40000};
        int[] row = new int[count];
        int at = 0;
        while (at < count) {
            int kind = s.next(5);
            int amount = amounts[s.next(amounts.length)];
            double turn = (1 + s.next(300)) / 100.0;
            int length = 10 + s.next(120);
            for (int i = 0; i < length && at < count; i++, at++) {
                row[at] = s.piece(kind, amount, turn, i);
            }
        }
        return row;
    }

    private int piece(int kind, int amount, double turn, int i) {
        switch (kind) {
            case 0:
                return 0;
            case 1:
                return sample(amount * StrictMath.sin(turn * i));
            case 2:
                return sample(next(2 * amount + 1) - amount);
            case 3:
                return sample((i / (1 + (int) (4 * turn))) % 2 == 0 ? amount : -amount);
            default:
                return sample(amount * 0.5 * (StrictMath.sin(turn * i) + StrictMath.sin(0.37 * turn * i)));
        }
    }

    /** A steady tone that jumps to another: what G.726 calls a transition. */
    static int[] tones(int seed, int count) {
        Signals s = new Signals(seed);
        double[] turns = {0.2, 1.3, 0.5, 2.0, 0.9};
        int[] row = new int[count];
        int length = 60 + s.next(60);
        for (int i = 0; i < count; i++) {
            int piece = i / length;
            double amount = piece % 2 == 0 ? 1500 + s.next(3) : 24000;
            row[i] = sample(amount * StrictMath.sin(turns[(piece + seed) % turns.length] * i));
        }
        return row;
    }

    /** Noise that comes in gusts, so that its peaks stand out of what was foreseen. */
    static int[] noise(int seed, int count) {
        Signals s = new Signals(seed);
        int[] row = new int[count];
        int amount = 1;
        for (int i = 0; i < count; i++) {
            if (i % 16 == 0) {
                amount = 1 << s.next(16);
            }
            row[i] = sample(s.next(2 * amount) - amount);
        }
        return row;
    }

    /** Steady for a while, then swinging for as long: what drives A2 up. */
    static int[] swinging(int one, int other, int length, int count) {
        int[] row = new int[count];
        for (int i = 0; i < count; i++) {
            boolean steady = i / length % 2 == 0;
            row[i] = steady || i % 2 == 0 ? one : other;
        }
        return row;
    }

    static int[] codes(int seed, int count, int bits) {
        Signals s = new Signals(seed);
        int[] row = new int[count];
        for (int i = 0; i < count; i++) {
            row[i] = s.next(1 << bits);
        }
        return row;
    }

    /** Mostly one code, which drives the inner numbers to their ends. */
    static int[] stubborn(int seed, int count, int bits) {
        Signals s = new Signals(seed);
        int[] row = new int[count];
        int code = s.next(1 << bits);
        for (int i = 0; i < count; i++) {
            if (s.next(100) == 0) {
                code = s.next(1 << bits);
            }
            row[i] = s.next(8) == 0 ? s.next(1 << bits) : code;
        }
        return row;
    }
}
