/** G.726 by the document's words, with divisions where the class has shifts; slow and plain. */
final class AdpcmModel {
    private static final long[][] BOUNDS = {
        {261},
        {8, 218, 331},
        {-124, 80, 178, 246, 300, 349, 400},
        {-122, -16, 68, 139, 198, 250, 298, 339, 378, 413, 445, 475, 502, 528, 553}
    };
    private static final long[][] TABLE = {
        {116, 365},
        {-2048, 135, 273, 373},
        {-2048, 4, 135, 213, 273, 323, 373, 425},
        {-2048, -66, 28, 104, 169, 224, 274, 318, 358, 395, 429, 459, 488, 514, 539, 566}
    };
    private static final long[][] WEIGHT = {
        {-704, 14048},
        {-128, 960, 4384, 18624},
        {-384, 576, 1312, 2048, 3584, 6336, 11360, 35904},
        {448, 448, 768, 1248, 1280, 1312, 1856, 3200, 4512, 5728, 7008, 8960, 11456, 14080, 16928, 22272}
    };
    private static final long[][] PACE = {
        {0, 3584},
        {0, 512, 1024, 3584},
        {0, 0, 0, 512, 512, 512, 1536, 3584},
        {0, 0, 0, 0, 0, 512, 512, 512, 512, 512, 1024, 1536, 2048, 2560, 3072, 3072}
    };

    /** So that a test can see which ends its run has met. */
    final Ends ends = new Ends();

    private final int k;
    private long yl = 34816;
    private long y = 544;
    private long dms = 0;
    private long dml = 0;
    private long ap = 0;
    private long td = 0;
    private long a1 = 0;
    private long a2 = 0;
    private final long[] b = new long[6];
    private long s1 = 32;
    private long s2 = 32;
    private final long[] d = {32, 32, 32, 32, 32, 32};
    private long pk1 = 0;
    private long pk2 = 0;
    private long z;
    private long se;
    private long step;

    AdpcmModel(int k) {
        this.k = k;
    }

    static long[] bounds(int k) {
        return BOUNDS[k - 2].clone();
    }

    static long[] table(int k) {
        return TABLE[k - 2].clone();
    }

    static long[] weight(int k) {
        return WEIGHT[k - 2].clone();
    }

    static long[] pace(int k) {
        return PACE[k - 2].clone();
    }

    long number(int what) {
        long[] first = {yl, y, dms, dml, ap, td, a1, a2};
        if (what < 8) {
            return first[what];
        }
        if (what < 14) {
            return b[what - 8];
        }
        if (what < 16) {
            return what == 14 ? s1 : s2;
        }
        if (what < 22) {
            return d[what - 16];
        }
        return what == 22 ? pk1 : pk2;
    }

    int say(int x) {
        ends.clear();
        forehand();
        long diff = down(x, 2) - se;
        long m = Math.abs(diff);
        int e = size(down(m, 1));
        ends.at("d", diff, -1, 0);
        ends.size("say: m >> 1", down(m, 1));
        long l = 128 * e + Math.floorMod(down(128 * m, e), 128L) - down(step, 2);
        long[] bounds = BOUNDS[k - 2];
        int n = bounds.length;
        int i = 0;
        for (long bound : bounds) {
            ends.at("BOUND " + bound + (diff < 0 ? " below 0" : ""), l - bound, -1, 0);
            if (l >= bound) {
                i++;
            }
        }
        int code = i;
        if (diff < 0) {
            code = 2 * n + 1 - i;
        } else if (i == 0) {
            code = k == 2 ? 0 : 2 * n + 1;
        }
        comes(code);
        return code;
    }

    int hear(int code) {
        ends.clear();
        forehand();
        long sr = comes(code);
        ends.around("heard: SR", sr, -8192, 8191);
        return (int) Math.max(-32768, Math.min(32767, sr * 4));
    }

    private void forehand() {
        z = 0;
        for (int i = 0; i < 6; i++) {
            z += times(down(b[i], 2), d[i]);
        }
        z = wrapped("Z", z);
        se = down(wrapped("SE", z + times(down(a2, 2), s2) + times(down(a1, 2), s1)), 1);
        long u = down(yl, 6);
        long f = y - u;
        if (Math.abs(f) > 640) {
            ends.at("STEP AP", ap, 255, 256);
        }
        if (ap >= 256) {
            step = y;
            return;
        }
        long g = down(ap, 2);
        ends.at("STEP f", f, -1, 0, 1);
        step = u;
        if (f > 0) {
            step += down(f * g, 6);
        } else if (f < 0) {
            step += down(f * g + 63, 6);
        }
    }

    private long comes(int c) {
        int half = 1 << (k - 1);
        boolean below = c >= half;
        int row = below ? 2 * half - 1 - c : c;
        long q = TABLE[k - 2][row] + down(step, 2);
        long t = q < 0 ? 0 : down((128 + q % 128) * 128, (int) (14 - q / 128 % 16));
        long sr = wrapped("SR", below ? se - t : se + t);
        long ds = wrapped("DS", sr + down(z, 1) - se);
        ends.at("DS", ds, -1, 0, 1);
        long h = threshold();
        boolean tr = td == 1 && t > h;
        ends.at("TR t - h with TD " + td, t - h, 0, 1);
        long newY = step + down(WEIGHT[k - 2][row] - step, 5);
        ends.around("Y", newY, 544, 5120);
        y = Math.min(5120, Math.max(544, newY));
        yl = yl + y + down(-yl, 6);
        long p = ds < 0 ? 1 : 0;
        filters(tr, ds, p, t, below);
        System.arraycopy(d, 0, d, 1, 5);
        d[0] = floated(t, below);
        ends.at(below ? "FLOAT of DQ below 0," : "FLOAT of DQ", t, 0, 16320, 16384);
        ends.size(sr < 0 ? "FLOAT of SR below 0," : "FLOAT of SR", Math.abs(sr));
        s2 = s1;
        s1 = sr <= -32768 ? -992 : floated(Math.abs(sr), sr < 0);
        pk2 = pk1;
        pk1 = p;
        ends.at("TD a", a2, -11777, -11776);
        td = !tr && a2 < -11776 ? 1 : 0;
        pace(PACE[k - 2][row], tr);
        return sr;
    }

    private long threshold() {
        int l = (int) down(yl, 15);
        long v = l > 9 ? 31744 : (32 + Math.floorMod(down(yl, 10), 32L)) * (1L << l);
        return down(v + down(v, 1), 1);
    }

    private void filters(boolean tr, long ds, long p, long t, boolean below) {
        if (tr) {
            a1 = 0;
            a2 = 0;
            java.util.Arrays.fill(b, 0);
            return;
        }
        long a = a2 - down(a2, 7);
        if (ds != 0) {
            long u = p != pk1 ? a1 : -a1;
            ends.around("u", u, -8191, 8191);
            a += u < -8191 ? -256 : u > 8191 ? 255 : down(u, 5);
            if (p != pk2) {
                ends.at("a, p unlike PK2,", a, -12160, -12159, 12415, 12416);
                a = a <= -12160 ? -12288 : a >= 12416 ? 12288 : a - 128;
            } else {
                ends.at("a, p like PK2,", a, -12416, -12415, 12159, 12160);
                a = a <= -12416 ? -12288 : a >= 12160 ? 12288 : a + 128;
            }
        }
        a2 = a;
        a1 = a1 - down(a1, 8);
        if (ds != 0) {
            a1 += p == pk1 ? 192 : -192;
        }
        ends.beyond("A1", a1, 15360 - a);
        a1 = Math.max(-(15360 - a), Math.min(15360 - a, a1));
        for (int i = 0; i < 6; i++) {
            long n = b[i] - down(b[i], k == 5 ? 9 : 8);
            if (t != 0) {
                n += below == (d[i] < 0) ? 128 : -128;
            }
            b[i] = wrapped("B", n);
        }
    }

    private void pace(long f, boolean tr) {
        dms += down(f - dms, 5);
        dml += down(4 * f - dml, 7);
        long amount = Math.abs(4 * dms - dml);
        boolean apart = td == 1 || amount >= down(dml, 3);
        // ends are noted only where they alone decide how AP goes on
        if (!tr && !apart) {
            ends.at("AP y", step, 1535, 1536);
        }
        if (!tr && td == 0 && step >= 1536) {
            ends.at("AP amount less DML >> 3", amount - down(dml, 3), -1, 0);
        }
        if (tr) {
            ap = 256;
        } else if (step < 1536 || apart) {
            ap += down(512 - ap, 4);
        } else {
            ap += down(-ap, 4);
        }
    }

    private static long down(long a, int n) {
        return Math.floorDiv(a, 1L << n);
    }

    private long wrapped(String name, long v) {
        ends.sixteenBits(name, v);
        return Math.floorMod(v + 32768, 65536L) - 32768;
    }

    private static int size(long v) {
        for (int n = 0; n < 15; n++) {
            if (v < 1L << n) {
                return n;
            }
        }
        return 15;
    }

    private long times(long a, long f) {
        long m = Math.abs(a) % 8192;
        int e = size(m) - 6;
        long q = m == 0 ? 32 : e < 0 ? m * (1L << -e) : down(m, e);
        int w = (int) (e + Math.floorMod(down(f, 6), 16L) - 13);
        long p = down(q * Math.floorMod(f, 64L) + 48, 4);
        long r = w < 0 ? down(p, -w) : p * (1L << w) % 32768;
        ends.size("TIMES amount of a", Math.abs(a));
        ends.at("TIMES f", f, -1024 + 32, -1, 32, 1023);
        ends.at("TIMES w", w, -1, 0);
        if (w >= 0) {
            ends.at("TIMES p * 2 to the w", p * (1L << w), 32512, 32768);
        }
        return a < 0 ^ f < 0 ? -r : r;
    }

    private static long floated(long t, boolean below) {
        int e = size(t);
        long f = t == 0 ? 32 : 64 * e + down(64 * t, e);
        return below ? f - 1024 : f;
    }
}
