/** Promises 13 (pack) and 14 (unpack). */
public final class PackTest {
    public static void main(String[] args) {
        knownBytes();
        for (int kind = 0; kind <= 8; kind++) {
            for (int side = 0; side < 2; side++) {
                boolean first = side == 0;
                for (int count : new int[] {0, 1, 2, 3, 5, 7, 8, 9, 60}) {
                    packs(kind, first, count);
                    unpacks(kind, first, count);
                }
                longest(kind, first);
            }
            wrongPacks(kind);
            wrongUnpacks(kind);
            laterBitsAreFree(kind);
            speakerGoesOn(kind);
        }
        closedLines();
        Check.end();
    }

    private static int bits(int kind) {
        return kind >= 2 && kind <= 5 ? kind : 8;
    }

    private static boolean wide(int kind) {
        return kind >= 6;
    }

    /** Three bits: codes 3, 4, 7 of a loud rise, a loud fall and silence. */
    private static void knownBytes() {
        VoiceDesk desk = new VoiceDesk();
        desk.open(0, 3);
        Tapes.feedSamples(desk, new int[] {0, 1000, -1000});
        Check.same("pack", desk.pack(0, true), 3);
        Check.same("FIRST: 111 011 10, 0", desk.out(0), 0xee);
        Check.same("FIRST: 0 and zeroes", desk.out(1), 0);
        desk.open(0, 3);
        Tapes.feedSamples(desk, new int[] {0, 1000, -1000});
        desk.pack(0, false);
        Check.same("LAST: 111, 011, 00 of 100", desk.out(0), 0x1f);
        Check.same("LAST: 1 of 100", desk.out(1), 1);
    }

    private static int[] saidOneByOne(VoiceDesk desk, int kind, int[] samples) {
        int each = wide(kind) ? 2 : 1;
        int[] codes = new int[samples.length / each];
        for (int i = 0; i < codes.length; i++) {
            codes[i] = wide(kind) ? desk.pair(1, samples[2 * i], samples[2 * i + 1]) : desk.say(1, samples[i]);
        }
        return codes;
    }

    private static void checkLikeEach(String what, VoiceDesk desk, VoiceDesk other, int side) {
        for (int n = 0; n < 84; n++) {
            Check.same(what + " inner " + n, desk.inner(1, side, n), other.inner(1, side, n));
        }
        Check.same(what + " second", desk.second(1), other.second(1));
    }

    private static void packs(int kind, boolean first, int count) {
        String what = "kind " + kind + " pack of " + count;
        VoiceDesk desk = new VoiceDesk();
        VoiceDesk other = new VoiceDesk();
        desk.open(1, kind);
        other.open(1, kind);
        int[] samples = Signals.voice(kind + 10, wide(kind) ? 2 * count : count);
        if (count > 2) {
            samples[0] = -32768;
            samples[1] = 32767;
            samples[2] = -1;
        }
        Tapes.feedSamples(desk, samples);
        Check.same(what, desk.pack(1, first), count);
        int[] codes = saidOneByOne(other, kind, samples);
        Tapes.checkOut(what, desk, Tapes.packed(codes, bits(kind), first), 0, 1000);
        Check.none(what + ": the tape is empty", desk.end(1));
        checkLikeEach(what, desk, other, 0);
        checkLikeEach(what, desk, other, 1);
    }

    private static int[] heardOneByOne(VoiceDesk desk, int kind, int[] codes) {
        int each = wide(kind) ? 2 : 1;
        int[] samples = new int[codes.length * each];
        for (int i = 0; i < codes.length; i++) {
            samples[i * each] = desk.hear(1, codes[i]);
            if (wide(kind)) {
                samples[i * 2 + 1] = desk.second(1);
            }
        }
        return samples;
    }

    private static void unpacks(int kind, boolean first, int count) {
        String what = "kind " + kind + " unpack of " + count;
        VoiceDesk desk = new VoiceDesk();
        VoiceDesk other = new VoiceDesk();
        desk.open(1, kind);
        other.open(1, kind);
        int[] codes = Signals.codes(kind + 20, count, bits(kind));
        Tapes.feedBytes(desk, Tapes.packed(codes, bits(kind), first));
        Check.same(what, desk.unpack(1, first, count), count * (wide(kind) ? 4 : 2));
        int[] samples = heardOneByOne(other, kind, codes);
        Tapes.checkOut(what, desk, Tapes.bytesOf(samples), 0, 1000);
        Check.none(what + ": the tape is empty", desk.end(1));
        checkLikeEach(what, desk, other, 0);
        checkLikeEach(what, desk, other, 1);
    }

    /** A full TAPE is packed; 250 codes are unpacked. */
    private static void longest(int kind, boolean first) {
        VoiceDesk desk = new VoiceDesk();
        desk.open(1, kind);
        int[] samples = Signals.voice(kind + 30, 500);
        int count = wide(kind) ? 250 : 500;
        Tapes.feedSamples(desk, samples);
        Check.same("kind " + kind + " pack of 1000 bytes", desk.pack(1, first), count);
        VoiceDesk other = new VoiceDesk();
        other.open(1, kind);
        int[] bytes = Tapes.packed(saidOneByOne(other, kind, samples), bits(kind), first);
        Tapes.checkOut("kind " + kind + " long pack", desk, bytes, Math.max(0, bytes.length - 200), bytes.length);
        Check.same("kind " + kind + " take", desk.take(), bytes.length);
        int half = (250 * bits(kind) + 7) / 8;
        Check.same("kind " + kind + " end", desk.end(half), half);
        Check.same("kind " + kind + " unpack of 250", desk.unpack(1, first, 250), wide(kind) ? 1000 : 500);
    }

    private static void wrongPacks(int kind) {
        VoiceDesk desk = new VoiceDesk();
        VoiceDesk fresh = new VoiceDesk();
        desk.open(1, kind);
        fresh.open(1, kind);
        desk.open(2, 1);
        Tapes.feedSamples(desk, new int[] {0});
        desk.pack(2, true);
        int step = wide(kind) ? 4 : 2;
        desk.feed(0x12345678, 0x12345678, 0x12345678, 0x12345678, 0x12345678);
        for (int n = 19; n > 12; n--) {
            desk.end(n);
            if (n % step != 0) {
                Check.none("kind " + kind + " pack of " + n + " bytes", desk.pack(1, true));
                Check.same("the tape stays", desk.end(n), n);
                Check.same("OUT stays", desk.out(0), 213);
                Check.none("OUT stays", desk.out(1));
            }
        }
        checkLikeEach("refused pack", desk, fresh, 0);
    }

    private static void wrongUnpacks(int kind) {
        VoiceDesk desk = new VoiceDesk();
        VoiceDesk fresh = new VoiceDesk();
        desk.open(1, kind);
        fresh.open(1, kind);
        desk.open(2, 1);
        Tapes.feedSamples(desk, new int[] {0});
        desk.pack(2, true);
        desk.feed(0x12345678, 0x12345678, 0x12345678, 0x12345678, 0x12345678);
        desk.end(9);
        int bits = bits(kind);
        for (int n = -2; n <= 40; n++) {
            if (n < 0 || (n * bits + 7) / 8 != 9) {
                Check.none("kind " + kind + " unpack of " + n, desk.unpack(1, true, n));
            }
        }
        for (int n : new int[] {251, 252, 500, Integer.MIN_VALUE, Integer.MAX_VALUE, 1 << 29, (1 << 29) + 9}) {
            Check.none("kind " + kind + " unpack of " + n, desk.unpack(1, false, n));
        }
        Check.same("the tape stays", desk.end(9), 9);
        Check.same("OUT stays", desk.out(0), 213);
        Check.none("OUT stays", desk.out(1));
        checkLikeEach("refused unpack", desk, fresh, 1);
        Tapes.feedBytes(desk, new int[(251 * bits + 7) / 8]);
        Check.none("kind " + kind + " unpack of 251 that are there", desk.unpack(1, false, 251));
    }

    /** What is left of the last byte is no code and is not looked at. */
    private static void laterBitsAreFree(int kind) {
        int bits = bits(kind);
        for (int side = 0; side < 2; side++) {
            boolean first = side == 0;
            VoiceDesk desk = new VoiceDesk();
            VoiceDesk other = new VoiceDesk();
            desk.open(1, kind);
            other.open(1, kind);
            int ones = (1 << bits) - 1;
            Tapes.feedBytes(desk, new int[] {255});
            Check.same("kind " + kind + " unpack of one", desk.unpack(1, first, 1), wide(kind) ? 4 : 2);
            int[] samples = heardOneByOne(other, kind, new int[] {ones});
            Tapes.checkOut("kind " + kind + " one code", desk, Tapes.bytesOf(samples), 0, 4);
        }
    }

    private static void speakerGoesOn(int kind) {
        VoiceDesk desk = new VoiceDesk();
        VoiceDesk other = new VoiceDesk();
        desk.open(1, kind);
        other.open(1, kind);
        int[] samples = Signals.voice(kind + 40, 80);
        int[] one = java.util.Arrays.copyOfRange(samples, 0, 40);
        int[] two = java.util.Arrays.copyOfRange(samples, 40, 80);
        Tapes.feedSamples(desk, one);
        desk.pack(1, false);
        Tapes.feedSamples(desk, two);
        desk.pack(1, true);
        saidOneByOne(other, kind, one);
        int[] codes = saidOneByOne(other, kind, two);
        Tapes.checkOut("kind " + kind + " second pack", desk, Tapes.packed(codes, bits(kind), true), 0, 100);
    }

    private static void closedLines() {
        VoiceDesk desk = new VoiceDesk();
        desk.open(0, 4);
        desk.feed(1, 2, 3, 4, 5);
        for (int l : new int[] {-1, 1, 2, 3, 4, Integer.MIN_VALUE, Integer.MAX_VALUE}) {
            Check.none("pack on line " + l, desk.pack(l, true));
            Check.none("unpack on line " + l, desk.unpack(l, true, 40));
        }
        Check.same("the tape stays", desk.end(20), 20);
        Check.same("unpack on the open line", desk.unpack(0, true, 40), 80);
    }
}
