/** Rows of samples and codes that are the same on every machine. */
final class Signals {
    private long state;

    private Signals(long seed) {
        state = seed * 2654435761L + 12345;
    }

    private int next(int bound) {
        state = state * 6364136223846793005L + 1442695040888963407L;
        return (int) ((state >>> 33) % bound);
    }

    static int sample(double v) {
        return (int) Math.max(-32768, Math.min(32767, Math.floor(v)));
    }

    /** Pieces of tones, steps, noise and silence, quiet and loud. */
    static int[] voice(int seed, int count) {
        Signals s = new Signals(seed);
        int[] amounts = {1, 8, 60, 400, 2500, 9000, 20000, 40000};
        int[] row = new int[count];
        int at = 0;
        while (at < count) {
            int kind = s.next(5);
            int amount = amounts[s.next(amounts.length)];
            double turn = (1 + s.next(300)) / 100.0;
            int length = 10 + s.next(120);
            for (int i = 0; i < length && at < count; i++, at++) {
                row[at] = s.piece(kind, amount, turn, i);
            }
        }
        return row;
    }

    private int piece(int kind, int amount, double turn, int i) {
        switch (kind) {
            case 0:
                return 0;
            case 1:
                return sample(amount * StrictMath.sin(turn * i));
            case 2:
                return sample(next(2 * amount + 1) - amount);
            case 3:
                return sample((i / (1 + (int) (4 * turn))) % 2 == 0 ? amount : -amount);
            default:
                return sample(amount * 0.5 * (StrictMath.sin(turn * i) + StrictMath.sin(0.37 * turn * i)));
        }
    }

    /** A steady tone that jumps to another: what G.726 calls a transition. */
    static int[] tones(int seed, int count) {
        Signals s = new Signals(seed);
        double[] turns = {0.2, 1.3, 0.5, 2.0, 0.9};
        int[] row = new int[count];
        int length = 60 + s.next(60);
        for (int i = 0; i < count; i++) {
            int piece = i / length;
            double amount = piece % 2 == 0 ? 1500 + s.next(3) : 24000;
            row[i] = sample(amount * StrictMath.sin(turns[(piece + seed) % turns.length] * i));
        }
        return row;
    }

    /** Noise that comes in gusts, so that its peaks stand out of what was foreseen. */
    static int[] noise(int seed, int count) {
        Signals s = new Signals(seed);
        int[] row = new int[count];
        int amount = 1;
        for (int i = 0; i < count; i++) {
            if (i % 16 == 0) {
                amount = 1 << s.next(16);
            }
            row[i] = sample(s.next(2 * amount) - amount);
        }
        return row;
    }

    /** Steady for a while, then swinging for as long: what drives A2 up. */
    static int[] swinging(int one, int other, int length, int count) {
        int[] row = new int[count];
        for (int i = 0; i < count; i++) {
            boolean steady = i / length % 2 == 0;
            row[i] = steady || i % 2 == 0 ? one : other;
        }
        return row;
    }

    static int[] codes(int seed, int count, int bits) {
        Signals s = new Signals(seed);
        int[] row = new int[count];
        for (int i = 0; i < count; i++) {
            row[i] = s.next(1 << bits);
        }
        return row;
    }

    /** Mostly one code, which drives the inner numbers to their ends. */
    static int[] stubborn(int seed, int count, int bits) {
        Signals s = new Signals(seed);
        int[] row = new int[count];
        int code = s.next(1 << bits);
        for (int i = 0; i < count; i++) {
            if (s.next(100) == 0) {
                code = s.next(1 << bits);
            }
            row[i] = s.next(8) == 0 ? s.next(1 << bits) : code;
        }
        return row;
    }

    /** A few codes again and again, at times others. */
    static int[] pattern(int seed, int count, int bits) {
        Signals s = new Signals(seed);
        int[] row = new int[count];
        int[] few = s.few(bits);
        for (int i = 0; i < count; i++) {
            if (s.next(60) == 0) {
                few = s.few(bits);
            }
            row[i] = s.next(20) == 0 ? s.next(1 << bits) : few[i % few.length];
        }
        return row;
    }

    private int[] few(int bits) {
        int[] few = new int[1 + next(8)];
        for (int i = 0; i < few.length; i++) {
            few[i] = next(1 << bits);
        }
        return few;
    }

    /** Mostly the loudest codes, now above 0, now below. */
    static int[] loud(int seed, int count, int bits) {
        Signals s = new Signals(seed);
        int half = 1 << (bits - 1);
        int[] above = bits == 8 ? new int[] {160, 161, 164} : new int[] {half - 1, half - 2};
        int[] below = bits == 8 ? new int[] {4, 5, 8} : new int[] {half, half + 1};
        int[] row = new int[count];
        int longest = 1 + s.next(40);
        int left = longest;
        boolean isAbove = true;
        for (int i = 0; i < count; i++) {
            if (left == 0) {
                isAbove = !isAbove;
                left = 1 + s.next(longest);
            }
            left--;
            int[] few = isAbove ? above : below;
            row[i] = s.next(15) == 0 ? s.next(1 << bits) : few[s.next(few.length)];
        }
        return row;
    }

    /** The seed's own code, all the time; its last ones in turn with the code of the other sign. */
    static int[] steady(int seed, int count, int bits) {
        int[] row = new int[count];
        for (int i = 0; i < count; i++) {
            boolean turned = i >= count - 300 && i % 2 == 0;
            row[i] = turned ? (1 << bits) - 1 - seed : seed;
        }
        return row;
    }

    /** Short pieces of tones, steps, noise and silence, up to all the sixteen bits hold and cut there. */
    static int[] pieces(int seed, int count) {
        Signals s = new Signals(seed);
        int[] amounts = {1, 8, 60, 400, 2500, 9000, 20000, 32768, 60000};
        int[] row = new int[count];
        int at = 0;
        while (at < count) {
            int kind = s.next(6);
            int amount = amounts[s.next(amounts.length)];
            double turn = (1 + s.next(310)) / 100.0;
            int length = 3 + s.next(30);
            for (int i = 0; i < length && at < count; i++, at++) {
                boolean coin = kind == 5 && s.next(2) == 0;
                row[at] = kind == 5 ? sample(coin ? amount : -amount) : s.piece(kind, amount, turn, i);
            }
        }
        return row;
    }

    /** One tone, so loud that it is cut, whose phase jumps: what was foreseen is then far off. */
    static int[] jumps(int seed, int count) {
        Signals s = new Signals(seed);
        double amount = 20000 << s.next(8);
        double turn = s.next(3142) / 1000.0;
        double phase = 0;
        int left = 0;
        int[] row = new int[count];
        for (int i = 0; i < count; i++) {
            if (left == 0) {
                phase = s.next(6283) / 1000.0;
                left = 8 + s.next(80);
            }
            left--;
            row[i] = sample(amount * StrictMath.sin(turn * i + phase));
        }
        return row;
    }
}
