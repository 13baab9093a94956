/** G.722 by the document's words, with divisions where the class has shifts; slow and plain. */
final class WideModel {
    private static final long[] C = {3, -11, 12, 32, -210, 951, 3876, -805, 362, -156, 53, -11};
    private static final long[] Q = {
        35, 72, 110, 150, 190, 233, 276, 323, 370, 422, 473, 530, 587, 650, 714, 786, 858, 940, 1023, 1121,
        1219, 1339, 1458, 1612, 1765, 1980, 2195, 2557, 2919
    };
    private static final long[] ROOTS = {
        2048, 2093, 2139, 2186, 2233, 2282, 2332, 2383, 2435, 2489, 2543, 2599, 2656, 2714, 2774, 2834,
        2896, 2960, 3025, 3091, 3158, 3228, 3298, 3371, 3444, 3520, 3597, 3676, 3756, 3838, 3922, 4008
    };
    private static final long[] U = {
        0, -20456, -12896, -8968, -6288, -4240, -2584, -1200, 20456, 12896, 8968, 6288, 4240, 2584, 1200, 0
    };
    private static final long[] V = {-7408, -1616, 7408, 1616};
    private static final long[] X56 = {
        -280, -280, -23352, -17560, -14120, -11664, -9752, -8184, -6864, -5712, -4696, -3784, -2960, -2208,
        -1520, -880
    };
    private static final long[] X64 = {
        -136, -136, -136, -136, -24808, -21904, -19008, -16704, -14984, -13512, -12280, -11192, -10232,
        -9360, -8576, -7856, -7192, -6576, -6000, -5456, -4944, -4464, -4008, -3576, -3168, -2776, -2400,
        -2032, -1688, -1360, -1040, -728
    };

    /** So that a test can see which ends its run has met. */
    final Ends ends = new Ends();

    private final Band low = new Band("low", 32, ends);
    private final Band high = new Band("high", 8, ends);
    private final long[] x = new long[24];
    private int second = 0;

    static long[] coefficients() {
        return C.clone();
    }

    static long[] q() {
        return Q.clone();
    }

    static long[] roots() {
        return ROOTS.clone();
    }

    static long[] u() {
        return U.clone();
    }

    static long[] v() {
        return V.clone();
    }

    int second() {
        return second;
    }

    long number(int what) {
        if (what >= 60) {
            return x[what - 60];
        }
        return what >= 30 ? high.number(what - 30) : low.number(what);
    }

    int pair(int v, int w) {
        ends.clear();
        shift(v, w);
        long o = evens();
        long e = odds();
        long dl = limited("d of LOW", down(e + o, 14) - low.s);
        long dh = limited("d of HIGH", down(e - o, 14) - high.s);
        ends.at("d of LOW", dl, -1, 0);
        ends.at("d of HIGH", dh, -1, 0);
        int il = lowCode(dl);
        long mh = dh < 0 ? -(dh + 1) : dh;
        long bound = down(564 * high.det, 12);
        ends.at("high 564" + (dh < 0 ? " below 0" : ""), mh - bound, -1, 0);
        boolean near = mh < bound;
        int ih = near ? (dh < 0 ? 1 : 3) : (dh < 0 ? 0 : 2);
        comes(il, ih);
        return 64 * ih + il;
    }

    private int lowCode(long d) {
        long m = d < 0 ? -(d + 1) : d;
        int i = 30;
        for (int j = 29; j >= 1; j--) {
            long bound = down(Q[j - 1] * low.det, 12);
            ends.at("Q" + j + (d < 0 ? " below 0" : ""), m - bound, -1, 0);
            if (m < bound) {
                i = j;
            }
        }
        if (d >= 0) {
            return 61 - (i - 1);
        }
        return i == 1 ? 63 : i == 2 ? 62 : 31 - (i - 3);
    }

    int hear(int code, int way) {
        ends.clear();
        int il = code % 64;
        int ih = code / 64;
        long factor = way == 64 ? x64(il) : way == 56 ? x56(il / 2) : U[il / 4];
        long lo = halved("LOW", low.s + down(low.det * factor, 15));
        long hi = halved("HIGH", high.s + down(high.det * V[ih], 15));
        comes(il, ih);
        shift(lo + hi, lo - hi);
        second = (int) limited("second heard", down(evens(), 11));
        return (int) limited("first heard", down(odds(), 11));
    }

    private long limited(String name, long v) {
        ends.sixteenBits(name, v);
        return cut(v, -32768, 32767);
    }

    private long halved(String name, long v) {
        ends.around(name, v, -16384, 16383);
        return cut(v, -16384, 16383);
    }

    static long x56(int i) {
        if (i >= 30) {
            return i == 30 ? 280 : -280;
        }
        return i < 16 ? X56[i] : Math.abs(X56[i - 14]);
    }

    static long x64(int i) {
        if (i >= 60) {
            return new long[] {432, 136, -432, -136}[i - 60];
        }
        return i < 32 ? X64[i] : Math.abs(X64[i - 28]);
    }

    private void comes(int il, int ih) {
        int r = il / 4;
        long dl = down(low.det * U[r], 15);
        long dh = down(high.det * V[ih], 15);
        low.scale(lowWeight(r), 18432, 8);
        high.scale(highWeight(ih), 22528, 10);
        low.forehand(dl);
        high.forehand(dh);
    }

    static long lowWeight(int r) {
        if (r == 0 || r == 15) {
            return -60;
        }
        long[] w = {3042, 1198, 538, 334, 172, 58, -30};
        return w[(r - 1) % 7];
    }

    static long highWeight(int ih) {
        return ih % 2 == 0 ? 798 : -214;
    }

    private void shift(long v, long w) {
        System.arraycopy(x, 2, x, 0, 22);
        x[22] = v;
        x[23] = w;
    }

    private long evens() {
        long sum = 0;
        for (int i = 0; i < 12; i++) {
            sum += x[2 * i] * C[i];
        }
        return sum;
    }

    private long odds() {
        long sum = 0;
        for (int i = 0; i < 12; i++) {
            sum += x[2 * i + 1] * C[11 - i];
        }
        return sum;
    }

    private static long down(long a, int n) {
        return Math.floorDiv(a, 1L << n);
    }

    private static long cut(long v, long least, long most) {
        return Math.max(least, Math.min(most, v));
    }

    private static final class Band {
        final String name;
        final Ends ends;
        long nb = 0;
        long det;
        long s = 0;
        long sp = 0;
        long sz = 0;
        final long[] a = new long[3];
        final long[] b = new long[7];
        final long[] r = new long[3];
        final long[] p = new long[3];
        final long[] d = new long[7];

        Band(String name, long det, Ends ends) {
            this.name = name + " ";
            this.det = det;
            this.ends = ends;
        }

        long limited(String what, long v) {
            ends.sixteenBits(name + what, v);
            return cut(v, -32768, 32767);
        }

        private long doubled(String what, long v) {
            ends.around(name + what, v, -16384, 16383);
            return cut(2 * v, -32768, 32767);
        }

        long number(int what) {
            long[] all = {
                nb, det, s, sp, sz, a[1], a[2], b[1], b[2], b[3], b[4], b[5], b[6], r[1], r[2], p[1], p[2],
                d[1], d[2], d[3], d[4], d[5], d[6]
            };
            return what < all.length ? all[what] : VoiceDesk.NONE;
        }

        void scale(long weight, long most, int shift) {
            long newNb = down(127 * nb, 7) + weight;
            ends.around(name + "NB", newNb, 0, most);
            nb = cut(newNb, 0, most);
            long root = ROOTS[(int) (nb / 64 % 32)];
            int n = shift - (int) (nb / 2048);
            ends.at(name + "NB >> 6", nb / 64, 31, 32);
            ends.at(name + "shift", n, -1, 0, shift);
            det = 4 * (n < 0 ? root * (1L << -n) : down(root, n));
        }

        private static boolean alike(long u, long v) {
            return u < 0 == v < 0;
        }

        void forehand(long diff) {
            d[0] = diff;
            r[0] = limited("R0", s + diff);
            p[0] = limited("P0", sz + diff);
            ends.at(name + "P0", p[0], -1, 0);
            ends.at(name + "d", diff, -1, 0, 1);
            ends.around(name + (alike(p[0], p[1]) ? "4 A1, alike," : "4 A1, unlike,"), a[1], -8192, 8191);
            long g = cut(4 * a[1], -32768, 32767);
            g = Math.min(32767, alike(p[0], p[1]) ? -g : g);
            long first = alike(p[0], p[2]) ? 128 : -128;
            long newA2 = first + down(g, 7) + down(a[2] * 32512, 15);
            ends.around(name + "A2", newA2, -12288, 12288);
            a[2] = cut(newA2, -12288, 12288);
            long nudge = alike(p[0], p[1]) ? 192 : -192;
            long newA1 = limited("A1", nudge + down(a[1] * 32640, 15));
            ends.beyond(name + "A1", newA1, 15360 - a[2]);
            a[1] = cut(newA1, a[2] - 15360, 15360 - a[2]);
            for (int i = 1; i <= 6; i++) {
                long step = diff == 0 ? 0 : alike(diff, d[i]) ? 128 : -128;
                b[i] = limited("B", step + down(b[i] * 32640, 15));
            }
            System.arraycopy(d, 0, d, 1, 6);
            System.arraycopy(r, 0, r, 1, 2);
            System.arraycopy(p, 0, p, 1, 2);
            sp = limited("SP", down(a[1] * doubled("2 R1", r[1]), 15) + down(a[2] * doubled("2 R2", r[2]), 15));
            long sum = 0;
            for (int i = 1; i <= 6; i++) {
                sum += down(b[i] * doubled("2 D", d[i]), 15);
            }
            sz = limited("SZ", sum);
            s = limited("S", sp + sz);
        }
    }
}
