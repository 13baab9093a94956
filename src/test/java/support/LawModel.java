/** G.711 by the document's words. */
final class LawModel {
    private LawModel() {
    }

    static int code(int kind, int x) {
        return kind == 0 ? muCode(x) : aCode(x);
    }

    static int sample(int kind, int code) {
        return kind == 0 ? muSample(code) : aSample(code);
    }

    private static int muCode(int x) {
        int m = Math.floorDiv(x, 4);
        int top = m < 0 ? 127 : 255;
        m = Math.min(Math.abs(m), 8158) + 33;
        int n = 0;
        int bound = 64;
        while (m >= bound) {
            n++;
            bound *= 2;
        }
        return top - 16 * n - m / (bound / 32) % 16;
    }

    private static int muSample(int code) {
        int d = 255 - code;
        int t = (8 * (d % 16) + 132) * (int) Math.pow(2, d / 16 % 8) - 132;
        return d >= 128 ? -t : t;
    }

    private static int aCode(int x) {
        int m = Math.floorDiv(x, 8);
        if (m < 0) {
            m = -m - 1;
        }
        int n = 0;
        int bound = 32;
        while (m >= bound) {
            n++;
            bound *= 2;
        }
        int low = n < 2 ? m / 2 % 16 : m / (int) Math.pow(2, n) % 16;
        return (16 * n + low) ^ (x >= 0 ? 213 : 85);
    }

    private static int aSample(int code) {
        int d = code ^ 85;
        int t = 16 * (d % 16) + 8;
        int n = d / 16 % 8;
        if (n > 0) {
            t = (t + 256) * (int) Math.pow(2, n - 1);
        }
        return d >= 128 ? t : -t;
    }
}
