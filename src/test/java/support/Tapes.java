import java.util.Arrays;

/** Puts rows on the TAPE of a desk and reads OUT; rows of at most 1000 bytes. */
final class Tapes {
    private Tapes() {
    }

    static void feedBytes(VoiceDesk desk, int[] bytes) {
        desk.end(0);
        for (int at = 0; at < bytes.length; at += 20) {
            int[] five = new int[5];
            for (int i = 0; i < 20; i++) {
                int value = at + i < bytes.length ? bytes[at + i] : 0;
                five[i / 4] = five[i / 4] * 256 + value;
            }
            desk.feed(five[0], five[1], five[2], five[3], five[4]);
        }
        Check.same("end", desk.end(bytes.length), bytes.length);
    }

    static void feedSamples(VoiceDesk desk, int[] samples) {
        feedBytes(desk, bytesOf(samples));
    }

    static int[] bytesOf(int[] samples) {
        int[] bytes = new int[2 * samples.length];
        for (int i = 0; i < samples.length; i++) {
            int unsigned = samples[i] < 0 ? samples[i] + 65536 : samples[i];
            bytes[2 * i] = unsigned / 256;
            bytes[2 * i + 1] = unsigned % 256;
        }
        return bytes;
    }

    /** Brings a line to the moment ahead of a run's step, with few calls. */
    static void bring(VoiceDesk desk, int l, int kind, Run run, int step) {
        int each = run.said && kind >= 6 ? 2 : 1;
        int most = run.said ? 500 / each : 250;
        int bits = kind >= 2 && kind <= 5 ? kind : 8;
        for (int at = 0; at < step; at += most) {
            int count = Math.min(most, step - at);
            int[] piece = Arrays.copyOfRange(run.row, each * at, each * (at + count));
            if (run.said) {
                feedSamples(desk, piece);
                Check.same("pack", desk.pack(l, true), count);
            } else {
                feedBytes(desk, packed(piece, bits, true));
                Check.same("unpack", desk.unpack(l, true, count), count * (kind >= 6 ? 4 : 2));
            }
        }
    }

    /** PACKED by way of a text of binary digits. */
    static int[] packed(int[] codes, int bits, boolean first) {
        int size = (codes.length * bits + 7) / 8;
        StringBuilder digits = new StringBuilder();
        for (int code : codes) {
            StringBuilder one = new StringBuilder();
            for (int b = bits - 1; b >= 0; b--) {
                one.append(code / (1 << b) % 2);
            }
            digits.append(first ? one : one.reverse());
        }
        while (digits.length() < 8 * size) {
            digits.append('0');
        }
        int[] bytes = new int[size];
        for (int i = 0; i < size; i++) {
            StringBuilder eight = new StringBuilder(digits.substring(8 * i, 8 * i + 8));
            bytes[i] = Integer.parseInt((first ? eight : eight.reverse()).toString(), 2);
        }
        return bytes;
    }

    static void checkOut(String what, VoiceDesk desk, int[] bytes, int from, int to) {
        for (int i = from; i < to && i < bytes.length; i++) {
            Check.same(what + " out(" + i + ")", desk.out(i), bytes[i]);
        }
        Check.none(what + " out(" + bytes.length + ")", desk.out(bytes.length));
    }
}
