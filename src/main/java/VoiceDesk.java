/** Telephone voices by G.711, G.726 and G.722 on four lines; ../shared/DOC.md says what each call answers. */
public final class VoiceDesk {
    public static final int NONE = -100000;

    private static final int LINE_COUNT = 4;
    private static final int MU = 0;
    private static final int A = 1;
    private static final int FIRST_ADPCM = 2;
    private static final int LAST_ADPCM = 5;
    private static final int WIDE_64 = 6;
    private static final int WIDE_56 = 7;
    private static final int WIDE_48 = 8;
    private static final int SPEAKER = 0;
    private static final int HEARER = 1;
    private static final int LEAST_SAMPLE = -32768;
    private static final int MOST_SAMPLE = 32767;
    private static final int FED_BYTES = 20;
    private static final int MOST_UNPACKED = 250;

    private final Line[] lines;
    private final Bytes tape;
    private final Bytes result;

    public VoiceDesk() {
        lines = new Line[LINE_COUNT];
        for (int i = 0; i < LINE_COUNT; i++) {
            lines[i] = new Line();
        }
        tape = new Bytes();
        result = new Bytes();
    }

    public boolean open(int l, int kind) {
        if (l < 0 || l >= LINE_COUNT || kind < MU || kind > WIDE_48) {
            return false;
        }
        lines[l].begin(kind);
        return true;
    }

    public int kind(int l) {
        Line line = openLine(l);
        return line == null ? NONE : line.kind;
    }

    public int say(int l, int x) {
        Line line = openLine(l);
        if (line == null || line.isWide() || !isSample(x)) {
            return NONE;
        }
        return line.encode(x, 0);
    }

    public int pair(int l, int v, int w) {
        Line line = openLine(l);
        if (line == null || !line.isWide() || !isSample(v) || !isSample(w)) {
            return NONE;
        }
        return line.encode(v, w);
    }

    public int hear(int l, int code) {
        Line line = openLine(l);
        if (line == null || !line.hasCode(code)) {
            return NONE;
        }
        return line.decode(code);
    }

    public int second(int l) {
        Line line = openLine(l);
        if (line == null || !line.isWide()) {
            return NONE;
        }
        return line.secondHeard();
    }

    public int inner(int l, int side, int what) {
        Line line = openLine(l);
        if (line == null || (side != SPEAKER && side != HEARER)) {
            return NONE;
        }
        return line.number(side == SPEAKER, what);
    }

    public int feed(int a, int b, int c, int d, int e) {
        if (tape.length > Bytes.LIMIT - FED_BYTES) {
            return NONE;
        }
        tape.addInt(a);
        tape.addInt(b);
        tape.addInt(c);
        tape.addInt(d);
        tape.addInt(e);
        return tape.length;
    }

    public int end(int n) {
        if (n < 0 || n > tape.length) {
            return NONE;
        }
        tape.length = n;
        return n;
    }

    public int take() {
        tape.copyFrom(result);
        return tape.length;
    }

    public int out(int i) {
        return result.byteAt(i);
    }

    public int pack(int l, boolean first) {
        Line line = openLine(l);
        if (line == null) {
            return NONE;
        }
        // a code stands for two bytes, of a wide line for four
        int shift = line.isWide() ? 2 : 1;
        int count = tape.length >> shift;
        if (count << shift != tape.length) {
            return NONE;
        }
        int bits = line.codeBits();
        result.clearFor(count * bits);
        for (int i = 0; i < count; i++) {
            int at = i << shift;
            int w = line.isWide() ? tape.sampleAt(at + 2) : 0;
            int code = line.encode(tape.sampleAt(at), w);
            result.putCode(i, bits, first, code);
        }
        tape.length = 0;
        return count;
    }

    public int unpack(int l, boolean first, int n) {
        Line line = openLine(l);
        if (line == null || n < 0 || n > MOST_UNPACKED) {
            return NONE;
        }
        int bits = line.codeBits();
        if (tape.length != Bytes.needed(n * bits)) {
            return NONE;
        }
        result.length = 0;
        for (int i = 0; i < n; i++) {
            result.addSample(line.decode(tape.codeAt(i, bits, first)));
            if (line.isWide()) {
                result.addSample(line.secondHeard());
            }
        }
        tape.length = 0;
        return result.length;
    }

    public int pass(int l, int m, int code) {
        Line from = openLine(l);
        Line to = openLine(m);
        if (from == null || to == null || !from.hasCode(code) || from.isWide() != to.isWide()) {
            return NONE;
        }
        int heard = from.decode(code);
        return to.encode(heard, from.secondHeard());
    }

    public int law(int kind, int code, int what) {
        if ((kind != MU && kind != A) || code < 0 || code > 255) {
            return NONE;
        }
        switch (what) {
            case 0:
                return kind == MU ? Law.muEdge(code, false) : Law.aEdge(code, false);
            case 1:
                return kind == MU ? Law.muEdge(code, true) : Law.aEdge(code, true);
            case 2:
                return kind == MU ? Law.muCode(Law.muSample(code)) : Law.aCode(Law.aSample(code));
            default:
                return NONE;
        }
    }

    private Line openLine(int l) {
        if (l < 0 || l >= LINE_COUNT) {
            return null;
        }
        Line line = lines[l];
        return line.kind == NONE ? null : line;
    }

    private static boolean isSample(int x) {
        return x >= LEAST_SAMPLE && x <= MOST_SAMPLE;
    }

    private static int cut(int v, int least, int most) {
        if (v < least) {
            return least;
        }
        return v > most ? most : v;
    }

    // no call of cut(): LANGUAGE.md wants calls to stay shallow
    private static int limited(int v) {
        if (v < LEAST_SAMPLE) {
            return LEAST_SAMPLE;
        }
        return v > MOST_SAMPLE ? MOST_SAMPLE : v;
    }

    private static int wrapped(int v) {
        return (short) v;
    }

    private static int sign(int v) {
        return v < 0 ? 1 : 0;
    }

    /** A row of bytes (0 .. 255), made once and used again. */
    private static final class Bytes {
        static final int LIMIT = 1000;

        private final int[] row = new int[LIMIT];
        private int length = 0;

        static int needed(int bits) {
            return (bits + 7) >> 3;
        }

        int byteAt(int i) {
            return i < 0 || i >= length ? NONE : row[i];
        }

        void add(int value) {
            if (length < LIMIT) {
                row[length] = value & 255;
                length++;
            }
        }

        void addInt(int value) {
            add(value >> 24);
            add(value >> 16);
            add(value >> 8);
            add(value);
        }

        void addSample(int value) {
            add(value >> 8);
            add(value);
        }

        /** The sample at two bytes that are there. */
        int sampleAt(int i) {
            return wrapped((byteAt(i) << 8) | byteAt(i + 1));
        }

        void copyFrom(Bytes other) {
            length = other.length;
            for (int i = 0; i < length; i++) {
                row[i] = other.row[i];
            }
        }

        /** Zeroes for so many bits: putCode only sets bits. */
        void clearFor(int bits) {
            length = Math.min(LIMIT, needed(bits));
            for (int i = 0; i < length; i++) {
                row[i] = 0;
            }
        }

        void putCode(int index, int bits, boolean first, int code) {
            for (int b = 0; b < bits; b++) {
                int place = index * bits + b;
                int at = place >> 3;
                int bit = (code >> codeBit(b, bits, first)) & 1;
                if (at >= 0 && at < length) {
                    row[at] |= bit << byteBit(place, first);
                }
            }
        }

        int codeAt(int index, int bits, boolean first) {
            int code = 0;
            for (int b = 0; b < bits; b++) {
                int place = index * bits + b;
                int bit = (byteAt(place >> 3) >> byteBit(place, first)) & 1;
                code |= bit << codeBit(b, bits, first);
            }
            return code;
        }

        private static int codeBit(int b, int bits, boolean first) {
            return first ? bits - 1 - b : b;
        }

        private static int byteBit(int place, boolean first) {
            return first ? 7 - (place & 7) : place & 7;
        }
    }

    /** A line has the voices of every kind from the start, so that opening it makes no object. */
    private static final class Line {
        private final Adpcm adpcmSpeaker = new Adpcm();
        private final Adpcm adpcmHearer = new Adpcm();
        private final Wideband wideSpeaker = new Wideband();
        private final Wideband wideHearer = new Wideband();
        private int kind = NONE;

        void begin(int newKind) {
            kind = newKind;
            if (isAdpcm()) {
                adpcmSpeaker.begin(newKind);
                adpcmHearer.begin(newKind);
            } else if (isWide()) {
                wideSpeaker.begin();
                wideHearer.begin();
            }
        }

        boolean isAdpcm() {
            return kind >= FIRST_ADPCM && kind <= LAST_ADPCM;
        }

        boolean isWide() {
            return kind >= WIDE_64;
        }

        int codeBits() {
            return isAdpcm() ? kind : 8;
        }

        boolean hasCode(int code) {
            return code >= 0 && code < (1 << codeBits());
        }

        /** The code of sample v; of a wide line, of v and w. */
        int encode(int v, int w) {
            if (isWide()) {
                return wideSpeaker.encode(v, w);
            }
            if (isAdpcm()) {
                return adpcmSpeaker.encode(v);
            }
            return kind == MU ? Law.muCode(v) : Law.aCode(v);
        }

        int decode(int code) {
            if (isWide()) {
                return wideHearer.decode(code, kind);
            }
            if (isAdpcm()) {
                return adpcmHearer.decode(code);
            }
            return kind == MU ? Law.muSample(code) : Law.aSample(code);
        }

        int secondHeard() {
            return wideHearer.secondHeard;
        }

        int number(boolean ofSpeaker, int what) {
            if (isWide()) {
                return ofSpeaker ? wideSpeaker.number(what) : wideHearer.number(what);
            }
            if (isAdpcm()) {
                return ofSpeaker ? adpcmSpeaker.number(what) : adpcmHearer.number(what);
            }
            return NONE;
        }
    }

    /** G.711. Codes are 0 .. 255, samples of sixteen bits. */
    private static final class Law {
        private static final int MU_BIAS = 33;
        private static final int MU_MOST = 8158;
        private static final int A_MASK = 85;

        static int muCode(int x) {
            int quarter = x >> 2;
            int m = Math.min(Math.abs(quarter), MU_MOST) + MU_BIAS;
            int n = segment(m, 64);
            int top = quarter < 0 ? 127 : 255;
            return top - (16 * n + ((m >> (n + 1)) & 15));
        }

        static int muSample(int c) {
            int d = 255 - c;
            int t = ((8 * (d & 15) + 132) << ((d >> 4) & 7)) - 132;
            return (d & 128) == 0 ? t : -t;
        }

        static int aCode(int x) {
            int eighth = x >> 3;
            int m = eighth < 0 ? -eighth - 1 : eighth;
            int n = segment(m, 32);
            int code = 16 * n + ((m >> Math.max(n, 1)) & 15);
            return code ^ (x < 0 ? A_MASK : A_MASK | 128);
        }

        static int aSample(int c) {
            int d = c ^ A_MASK;
            int t = 16 * (d & 15) + 8;
            int n = (d >> 4) & 7;
            if (n > 0) {
                t = (t + 256) << (n - 1);
            }
            return (d & 128) == 0 ? -t : t;
        }

        private static int segment(int m, int first) {
            int n = 0;
            while (n < 7 && m >= first << n) {
                n++;
            }
            return n;
        }

        /** The least or the greatest sample that is said as c; NONE if no sample is. */
        static int muEdge(int c, boolean greatest) {
            int d = 255 - c;
            int n = (d >> 4) & 7;
            int steps = 16 + (d & 15);
            boolean below = (d & 128) != 0;
            int high = ((steps + 1) << (n + 1)) - 1 - MU_BIAS;
            if (high == MU_MOST) {
                // all that is cut to the greatest amount is said as this code too
                high = below ? 8192 : 8191;
            }
            // a sample below 0 has at least the amount 1 when it has lost two bits
            int low = Math.max((steps << (n + 1)) - MU_BIAS, below ? 1 : 0);
            if (low > high) {
                return NONE;
            }
            if (below) {
                return greatest ? 3 - 4 * low : -4 * high;
            }
            return greatest ? 4 * high + 3 : 4 * low;
        }

        static int aEdge(int c, boolean greatest) {
            int d = c ^ A_MASK;
            int n = (d >> 4) & 7;
            int steps = n == 0 ? d & 15 : 16 + (d & 15);
            int shift = Math.max(n, 1);
            int low = steps << shift;
            int high = ((steps + 1) << shift) - 1;
            if ((d & 128) == 0) {
                return greatest ? -8 * low - 1 : -8 * high - 8;
            }
            return greatest ? 8 * high + 7 : 8 * low;
        }
    }

    /** One side of a G.726 line. Its numbers stand in the order in which inner() tells them. */
    private static final class Adpcm {
        private static final int YL = 0;
        private static final int Y = 1;
        private static final int DMS = 2;
        private static final int DML = 3;
        private static final int AP = 4;
        private static final int TD = 5;
        private static final int A1 = 6;
        private static final int A2 = 7;
        private static final int B1 = 8;
        private static final int S1 = 14;
        private static final int S2 = 15;
        private static final int D1 = 16;
        private static final int PK1 = 22;
        private static final int PK2 = 23;
        private static final int COUNT = 24;
        private static final int TAPS = 6;
        private static final int FLOAT_ZERO = 32;
        private static final int FLOAT_SIGN = 1024;
        private static final int LEAST_Y = 544;
        private static final int MOST_Y = 5120;
        private static final int MOST_A2 = 12288;

        // Rows for 2, 3, 4 and 5 bits, one behind the other.
        private static final int[] BOUNDS = {
            261,
            8, 218, 331,
            -124, 80, 178, 246, 300, 349, 400,
            -122, -16, 68, 139, 198, 250, 298, 339, 378, 413, 445, 475, 502, 528, 553
        };
        private static final int[] TABLE = {
            116, 365,
            -2048, 135, 273, 373,
            -2048, 4, 135, 213, 273, 323, 373, 425,
            -2048, -66, 28, 104, 169, 224, 274, 318, 358, 395, 429, 459, 488, 514, 539, 566
        };
        private static final int[] WEIGHT = {
            -704, 14048,
            -128, 960, 4384, 18624,
            -384, 576, 1312, 2048, 3584, 6336, 11360, 35904,
            448, 448, 768, 1248, 1280, 1312, 1856, 3200,
            4512, 5728, 7008, 8960, 11456, 14080, 16928, 22272
        };
        private static final int[] PACE = {
            0, 3584,
            0, 512, 1024, 3584,
            0, 0, 0, 512, 512, 512, 1536, 3584,
            0, 0, 0, 0, 0, 512, 512, 512, 512, 512, 1024, 1536, 2048, 2560, 3072, 3072
        };

        private final int[] numbers = new int[COUNT];
        private int bits = FIRST_ADPCM;
        // What FOREHAND finds, good for the one sample at hand.
        private int se = 0;
        private int sz = 0;
        private int step = 0;

        void begin(int k) {
            bits = k;
            for (int i = 0; i < COUNT; i++) {
                numbers[i] = 0;
            }
            numbers[YL] = 34816;
            numbers[Y] = LEAST_Y;
            numbers[S1] = FLOAT_ZERO;
            numbers[S2] = FLOAT_ZERO;
            for (int i = 0; i < TAPS; i++) {
                numbers[D1 + i] = FLOAT_ZERO;
            }
        }

        int number(int what) {
            return what < 0 || what >= COUNT ? NONE : numbers[what];
        }

        int encode(int x) {
            foresee();
            int code = codeOf((x >> 2) - se);
            settle(code);
            return code;
        }

        int decode(int code) {
            foresee();
            return limited(4 * settle(code));
        }

        private void foresee() {
            int z = 0;
            for (int i = 0; i < TAPS; i++) {
                z += times(numbers[B1 + i] >> 2, numbers[D1 + i]);
            }
            z = wrapped(z);
            sz = z >> 1;
            int poles = times(numbers[A2] >> 2, numbers[S2]) + times(numbers[A1] >> 2, numbers[S1]);
            se = wrapped(z + poles) >> 1;
            step = stepNow();
        }

        private int stepNow() {
            if (numbers[AP] >= 256) {
                return numbers[Y];
            }
            int u = numbers[YL] >> 6;
            int f = numbers[Y] - u;
            int g = numbers[AP] >> 2;
            if (f > 0) {
                return u + ((f * g) >> 6);
            }
            if (f < 0) {
                return u + ((f * g + 63) >> 6);
            }
            return u;
        }

        private int codeOf(int d) {
            int m = Math.abs(d);
            int e = size(m >> 1);
            int l = 128 * e + (((128 * m) >> e) & 127) - (step >> 2);
            int count = (1 << (bits - 1)) - 1;
            int row = (1 << (bits - 1)) - bits;
            int i = 0;
            while (i < count && l >= BOUNDS[row + i]) {
                i++;
            }
            if (d < 0) {
                return 2 * count + 1 - i;
            }
            if (i > 0) {
                return i;
            }
            return bits == 2 ? 0 : 2 * count + 1;
        }

        /** What comes of a code, said or heard: answers SR. */
        private int settle(int code) {
            int place = tablePlace(code);
            boolean below = code >= 1 << (bits - 1);
            int t = amount(TABLE[place] + (step >> 2));
            int sr = wrapped(below ? se - t : se + t);
            int ds = wrapped(sr + sz - se);
            // asked before YL changes
            boolean transition = isTransition(t);
            adaptStep(WEIGHT[place]);
            if (transition) {
                forgetFilters();
            } else {
                adaptA2(ds);
                adaptA1(ds);
                adaptZeros(t, below);
            }
            remember(floatOf(t, below), floatOf(Math.abs(sr), sr < 0), sign(ds));
            numbers[TD] = !transition && numbers[A2] < -11776 ? 1 : 0;
            adaptPace(PACE[place], transition);
            return sr;
        }

        /** The upper half of the codes has the numbers of the lower, from the end. */
        private int tablePlace(int code) {
            int half = 1 << (bits - 1);
            int last = 2 * half - 1;
            int lower = code < half ? code : last - code;
            return half - 2 + cut(lower, 0, half - 1);
        }

        private static int amount(int q) {
            if (q < 0) {
                return 0;
            }
            return ((128 + (q & 127)) * 128) >> (14 - ((q >> 7) & 15));
        }

        private boolean isTransition(int t) {
            if (numbers[TD] == 0) {
                return false;
            }
            int l = numbers[YL] >> 15;
            int v = l > 9 ? 31744 : (32 + ((numbers[YL] >> 10) & 31)) << l;
            return t > (v + (v >> 1)) >> 1;
        }

        private void adaptStep(int weight) {
            numbers[Y] = cut(step + ((weight - step) >> 5), LEAST_Y, MOST_Y);
            numbers[YL] += numbers[Y] + ((-numbers[YL]) >> 6);
        }

        private void forgetFilters() {
            numbers[A1] = 0;
            numbers[A2] = 0;
            for (int i = 0; i < TAPS; i++) {
                numbers[B1 + i] = 0;
            }
        }

        private void adaptA2(int ds) {
            int a = numbers[A2] - (numbers[A2] >> 7);
            if (ds != 0) {
                int p = sign(ds);
                int u = p != numbers[PK1] ? numbers[A1] : -numbers[A1];
                if (u < -8191) {
                    a -= 256;
                } else if (u > 8191) {
                    a += 255;
                } else {
                    a += u >> 5;
                }
                a = nudgedA2(a, p != numbers[PK2] ? -128 : 128);
            }
            numbers[A2] = a;
        }

        private static int nudgedA2(int a, int nudge) {
            if (a <= -MOST_A2 - nudge) {
                return -MOST_A2;
            }
            if (a >= MOST_A2 - nudge) {
                return MOST_A2;
            }
            return a + nudge;
        }

        /** Stands behind adaptA2: the new A2 bounds A1. */
        private void adaptA1(int ds) {
            int a = numbers[A1] - (numbers[A1] >> 8);
            if (ds != 0) {
                a += sign(ds) == numbers[PK1] ? 192 : -192;
            }
            int most = 15360 - numbers[A2];
            numbers[A1] = cut(a, -most, most);
        }

        private void adaptZeros(int t, boolean below) {
            int leak = bits == 5 ? 9 : 8;
            for (int i = 0; i < TAPS; i++) {
                int b = numbers[B1 + i];
                b -= b >> leak;
                if (t != 0) {
                    b += below == (numbers[D1 + i] < 0) ? 128 : -128;
                }
                numbers[B1 + i] = wrapped(b);
            }
        }

        private void remember(int dq, int sr, int p) {
            for (int i = TAPS - 1; i > 0; i--) {
                numbers[D1 + i] = numbers[D1 + i - 1];
            }
            numbers[D1] = dq;
            numbers[S2] = numbers[S1];
            numbers[S1] = sr;
            numbers[PK2] = numbers[PK1];
            numbers[PK1] = p;
        }

        private void adaptPace(int pace, boolean transition) {
            numbers[DMS] += (pace - numbers[DMS]) >> 5;
            numbers[DML] += (4 * pace - numbers[DML]) >> 7;
            int apart = Math.abs(4 * numbers[DMS] - numbers[DML]);
            if (transition) {
                numbers[AP] = 256;
            } else if (step < 1536 || numbers[TD] == 1 || apart >= numbers[DML] >> 3) {
                numbers[AP] += (512 - numbers[AP]) >> 4;
            } else {
                numbers[AP] += (-numbers[AP]) >> 4;
            }
        }

        private static int size(int v) {
            int n = 0;
            while (n < 15 && v >= 1 << n) {
                n++;
            }
            return n;
        }

        private static int times(int a, int f) {
            int m = Math.abs(a) & 8191;
            int e = size(m) - 6;
            int q = m == 0 ? 32 : shifted(m, -e);
            int w = e + ((f >> 6) & 15) - 13;
            int p = (q * (f & 63) + 48) >> 4;
            int r = shifted(p, w) & 32767;
            return (a < 0) != (f < 0) ? -r : r;
        }

        private static int shifted(int v, int up) {
            return up < 0 ? v >> -up : v << up;
        }

        private static int floatOf(int t, boolean below) {
            int f = FLOAT_ZERO;
            // only an SR of -32768 has the amount 32768, and it counts as a 0 below 0
            if (t > 0 && t < 32768) {
                int e = size(t);
                f = 64 * e + ((64 * t) >> e);
            }
            return below ? f - FLOAT_SIGN : f;
        }
    }

    /** One side of a G.722 line: two bands and the sieve between them and the samples. */
    private static final class Wideband {
        private static final int HIGH_AT = 30;
        private static final int SIEVE_AT = 60;
        private static final int SIEVE = 24;

        private static final int[] COEFFICIENTS = {
            3, -11, 12, 32, -210, 951, 3876, -805, 362, -156, 53, -11
        };
        private static final int[] Q = {
            35, 72, 110, 150, 190, 233, 276, 323, 370, 422, 473, 530, 587, 650, 714,
            786, 858, 940, 1023, 1121, 1219, 1339, 1458, 1612, 1765, 1980, 2195, 2557, 2919
        };
        private static final int[] U = {
            0, -20456, -12896, -8968, -6288, -4240, -2584, -1200,
            20456, 12896, 8968, 6288, 4240, 2584, 1200, 0
        };
        private static final int[] V = {-7408, -1616, 7408, 1616};
        private static final int[] WL = {
            -60, 3042, 1198, 538, 334, 172, 58, -30, 3042, 1198, 538, 334, 172, 58, -30, -60
        };
        private static final int[] WH = {798, -214, 798, -214};
        private static final int[] X_56 = {
            -280, -280, -23352, -17560, -14120, -11664, -9752, -8184,
            -6864, -5712, -4696, -3784, -2960, -2208, -1520, -880,
            23352, 17560, 14120, 11664, 9752, 8184, 6864, 5712,
            4696, 3784, 2960, 2208, 1520, 880, 280, -280
        };
        private static final int[] X_64 = {
            -136, -136, -136, -136, -24808, -21904, -19008, -16704,
            -14984, -13512, -12280, -11192, -10232, -9360, -8576, -7856,
            -7192, -6576, -6000, -5456, -4944, -4464, -4008, -3576,
            -3168, -2776, -2400, -2032, -1688, -1360, -1040, -728,
            24808, 21904, 19008, 16704, 14984, 13512, 12280, 11192,
            10232, 9360, 8576, 7856, 7192, 6576, 6000, 5456,
            4944, 4464, 4008, 3576, 3168, 2776, 2400, 2032,
            1688, 1360, 1040, 728, 432, 136, -432, -136
        };

        private final Band low = new Band();
        private final Band high = new Band();
        private final int[] x = new int[SIEVE];
        private int secondHeard = 0;

        void begin() {
            low.begin(32);
            high.begin(8);
            for (int i = 0; i < SIEVE; i++) {
                x[i] = 0;
            }
            secondHeard = 0;
        }

        int number(int what) {
            if (what < HIGH_AT) {
                return low.number(what);
            }
            if (what < SIEVE_AT) {
                return high.number(what - HIGH_AT);
            }
            return what < SIEVE_AT + SIEVE ? x[what - SIEVE_AT] : NONE;
        }

        int encode(int v, int w) {
            push(v, w);
            int o = evenSum();
            int e = oddSum();
            int il = lowCode(low.error((e + o) >> 14));
            int ih = highCode(high.error((e - o) >> 14));
            settle(il, ih);
            return 64 * ih + il;
        }

        /** Answers the first sample; the second is kept. */
        int decode(int code, int kind) {
            int il = code & 63;
            int ih = (code >> 6) & 3;
            int lowHeard = low.heard(lowFactor(il, kind));
            int highHeard = high.heard(V[ih]);
            settle(il, ih);
            push(lowHeard + highHeard, lowHeard - highHeard);
            secondHeard = limited(evenSum() >> 11);
            return limited(oddSum() >> 11);
        }

        private void push(int v, int w) {
            for (int i = 0; i < SIEVE - 2; i++) {
                x[i] = x[i + 2];
            }
            x[SIEVE - 2] = v;
            x[SIEVE - 1] = w;
        }

        private int evenSum() {
            int sum = 0;
            for (int i = 0; i < 12; i++) {
                sum += x[2 * i] * COEFFICIENTS[i];
            }
            return sum;
        }

        private int oddSum() {
            int sum = 0;
            for (int i = 0; i < 12; i++) {
                sum += x[2 * i + 1] * COEFFICIENTS[11 - i];
            }
            return sum;
        }

        private int lowCode(int d) {
            int m = d < 0 ? -(d + 1) : d;
            int i = 1;
            while (i < 30 && m >= low.scaled(Q[i - 1])) {
                i++;
            }
            if (d >= 0) {
                return 62 - i;
            }
            return i < 3 ? 64 - i : 34 - i;
        }

        private int highCode(int d) {
            int m = d < 0 ? -(d + 1) : d;
            int near = m < high.scaled(564) ? 1 : 0;
            return d < 0 ? near : 2 + near;
        }

        private static int lowFactor(int il, int kind) {
            if (kind == WIDE_64) {
                return X_64[il & 63];
            }
            if (kind == WIDE_56) {
                return X_56[(il >> 1) & 31];
            }
            return U[(il >> 2) & 15];
        }

        private void settle(int il, int ih) {
            int r = (il >> 2) & 15;
            low.settle(U[r], WL[r], 18432, 8);
            high.settle(V[ih & 3], WH[ih & 3], 22528, 10);
        }
    }

    /** One band of G.722. Its numbers stand in the order in which inner() tells them. */
    private static final class Band {
        private static final int NB = 0;
        private static final int DET = 1;
        private static final int S = 2;
        private static final int SP = 3;
        private static final int SZ = 4;
        private static final int A1 = 5;
        private static final int A2 = 6;
        private static final int B1 = 7;
        private static final int R1 = 13;
        private static final int R2 = 14;
        private static final int P1 = 15;
        private static final int P2 = 16;
        private static final int D1 = 17;
        private static final int COUNT = 23;
        private static final int TAPS = 6;

        private static final int[] ROOTS = {
            2048, 2093, 2139, 2186, 2233, 2282, 2332, 2383, 2435, 2489, 2543,
            2599, 2656, 2714, 2774, 2834, 2896, 2960, 3025, 3091, 3158, 3228,
            3298, 3371, 3444, 3520, 3597, 3676, 3756, 3838, 3922, 4008
        };

        private final int[] numbers = new int[COUNT];

        void begin(int det) {
            for (int i = 0; i < COUNT; i++) {
                numbers[i] = 0;
            }
            numbers[DET] = det;
        }

        int number(int what) {
            return what < 0 || what >= COUNT ? NONE : numbers[what];
        }

        int error(int value) {
            return limited(value - numbers[S]);
        }

        int scaled(int bound) {
            return (bound * numbers[DET]) >> 12;
        }

        int heard(int factor) {
            return cut(numbers[S] + difference(factor), -16384, 16383);
        }

        private int difference(int factor) {
            return (numbers[DET] * factor) >> 15;
        }

        /** What comes of a code: the scale, then FOREHAND. */
        void settle(int factor, int weight, int mostNb, int shift) {
            // of the DET of before: the new one is of the next code
            int d = difference(factor);
            int r = limited(numbers[S] + d);
            int p = limited(numbers[SZ] + d);
            adaptScale(weight, mostNb, shift);
            adaptPoles(p);
            adaptZeros(d);
            remember(d, r, p);
            int sz = 0;
            for (int i = 0; i < TAPS; i++) {
                sz += product(B1 + i, D1 + i);
            }
            numbers[SP] = limited(product(A1, R1) + product(A2, R2));
            numbers[SZ] = limited(sz);
            numbers[S] = limited(numbers[SP] + numbers[SZ]);
        }

        private void adaptScale(int weight, int mostNb, int shift) {
            int nb = cut(((127 * numbers[NB]) >> 7) + weight, 0, mostNb);
            int root = ROOTS[(nb >> 6) & 31];
            int down = shift - (nb >> 11);
            numbers[NB] = nb;
            numbers[DET] = 4 * (down < 0 ? root << -down : root >> down);
        }

        private int product(int factor, int signal) {
            return (numbers[factor] * limited(2 * numbers[signal])) >> 15;
        }

        private void adaptPoles(int p) {
            boolean likeP1 = sign(p) == sign(numbers[P1]);
            boolean likeP2 = sign(p) == sign(numbers[P2]);
            int g = limited(4 * numbers[A1]);
            if (likeP1) {
                g = Math.min(-g, MOST_SAMPLE);
            }
            int a2 = (likeP2 ? 128 : -128) + (g >> 7) + ((numbers[A2] * 32512) >> 15);
            numbers[A2] = cut(a2, -12288, 12288);
            int a1 = limited((likeP1 ? 192 : -192) + ((numbers[A1] * 32640) >> 15));
            int most = 15360 - numbers[A2];
            numbers[A1] = cut(a1, -most, most);
        }

        private void adaptZeros(int d) {
            for (int i = 0; i < TAPS; i++) {
                int nudge = sign(d) == sign(numbers[D1 + i]) ? 128 : -128;
                if (d == 0) {
                    nudge = 0;
                }
                numbers[B1 + i] = limited(nudge + ((numbers[B1 + i] * 32640) >> 15));
            }
        }

        private void remember(int d, int r, int p) {
            for (int i = TAPS - 1; i > 0; i--) {
                numbers[D1 + i] = numbers[D1 + i - 1];
            }
            numbers[D1] = d;
            numbers[R2] = numbers[R1];
            numbers[R1] = r;
            numbers[P2] = numbers[P1];
            numbers[P1] = p;
        }
    }
}
