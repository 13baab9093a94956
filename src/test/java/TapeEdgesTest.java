import java.util.ArrayList;
import java.util.Arrays;
import java.util.List;
import java.util.function.Supplier;

/** Promises 9 to 14: each sentence that names a boundary case, under its promise's number. */
public final class TapeEdgesTest {
    private static final int NONE = VoiceDesk.NONE;
    private static final int LEAST = Refusals.LEAST;
    private static final int MOST = Refusals.MOST;
    private static final int CLOSED = Scene.CLOSED;
    private static final int[] WAYS = {64, 56, 48};

    public static void main(String[] args) {
        promise9();
        promise10();
        promise11Empty();
        promise11Full();
        promise12();
        for (int kind = 0; kind <= 8; kind++) {
            promise13Refused(kind);
            promise13Empty(kind);
            promise13Full(kind);
            promise13LastByte(kind);
            promise14Refused(kind);
            promise14NoCodes(kind);
            promise14Most(kind);
        }
        promise13And14Closed();
        Check.end();
    }

    private static List<Integer> listOf(int[] row) {
        List<Integer> list = new ArrayList<>();
        for (int value : row) {
            list.add(value);
        }
        return list;
    }

    /** What Picture.out shows of an OUT that is just these bytes. */
    private static List<Integer> outOf(int[] bytes) {
        List<Integer> list = listOf(bytes);
        while (list.size() < 1020) {
            list.add(NONE);
        }
        return list;
    }

    /** "NONE, and none come, if there would be more than 1000." */
    private static void promise9() {
        for (int length : new int[] {981, 982, 990, 999, 1000}) {
            Scene scene = new Scene(length, 4, CLOSED, 6, 0);
            Refusals.none("9: feed", scene, d -> d.feed(-1, 0x12345678, 0, 1, LEAST));
        }
        for (int length : new int[] {0, 1, 20, 960, 979, 980}) {
            Scene scene = new Scene(length, 4, CLOSED, 6, 0);
            Check.same("9: feed behind " + length, scene.get().feed(-1, 2, 3, 4, 5), length + 20);
            VoiceDesk desk = scene.get();
            desk.feed(-1, 2, 3, 4, 5);
            Check.same("9: the length then", Picture.tapeLength(desk), length + 20);
        }
        VoiceDesk desk = new VoiceDesk();
        for (int i = 1; i <= 50; i++) {
            Check.same("9: feed " + i, desk.feed(i, i, i, i, i), 20 * i);
        }
        Check.none("9: feed 51", desk.feed(0, 0, 0, 0, 0));
        Check.same("9: end", desk.end(980), 980);
        Check.same("9: feed to just 1000", desk.feed(0, 0, 0, 0, 0), 1000);
        bytesOfInts();
    }

    /** "the highest of each int first", of ints with every sign. */
    private static void bytesOfInts() {
        VoiceDesk desk = new VoiceDesk();
        desk.open(0, 1);
        desk.feed(LEAST, MOST, -1, 0x00ff8001, 0);
        int[] bytes = {128, 0, 0, 0, 127, 255, 255, 255, 255, 255, 255, 255, 0, 255, 128, 1, 0, 0, 0, 0};
        int[] samples = new int[20];
        for (int i = 0; i < 20; i++) {
            samples[i] = LawModel.sample(1, bytes[i]);
        }
        Check.same("9: unpack of twenty bytes", desk.unpack(0, false, 20), 40);
        Tapes.checkOut("9: the bytes of the ints", desk, Tapes.bytesOf(samples), 0, 40);
    }

    /** "NONE if there are not so many, or n is below 0." */
    private static void promise10() {
        for (int length : new int[] {0, 1, 23, 999, 1000}) {
            Scene scene = new Scene(length, 4, CLOSED, 6, 0);
            for (int n : new int[] {LEAST, -1000, -1, length + 1, length + 20, 1001, MOST}) {
                Refusals.none("10: end(" + n + ")", scene, d -> d.end(n));
            }
            Refusals.nothingDone("10: end of all", scene, d -> d.end(length));
            for (int n : new int[] {0, length / 2, Math.max(0, length - 1), length}) {
                VoiceDesk desk = scene.get();
                Check.same("10: end(" + n + ")", desk.end(n), n);
                Check.none("10: what is cut is gone", desk.end(n + 1));
                Scene alike = new Scene(n, 4, CLOSED, 6, 0);
                Supplier<VoiceDesk> cut = () -> {
                    VoiceDesk d = scene.get();
                    d.end(n);
                    return d;
                };
                Check.holds("10: the first " + n + " alone", Picture.of(cut).equals(Picture.of(alike)));
            }
        }
    }

    /** "OUT becomes the TAPE (its first 1000 bytes): how many", of an empty OUT. */
    private static void promise11Empty() {
        Supplier<VoiceDesk> taken = () -> {
            VoiceDesk desk = new VoiceDesk();
            desk.feed(1, 2, 3, 4, 5);
            Check.same("11: take of an empty OUT", desk.take(), 0);
            return desk;
        };
        Check.same("11: the TAPE is empty then", Picture.tapeLength(taken.get()), 0);
        Check.holds("11: as a new object", Picture.of(taken).equals(Picture.of(VoiceDesk::new)));
        // OUT that was in use and is empty now
        VoiceDesk desk = new Scene(0, 0, CLOSED, CLOSED, CLOSED).get();
        Check.same("11: pack of an empty TAPE", desk.pack(0, true), 0);
        desk.feed(1, 2, 3, 4, 5);
        Check.same("11: take of an OUT that is empty now", desk.take(), 0);
        Check.none("11: its TAPE", desk.end(1));
    }

    /** A full OUT of 1000 bytes (it never has more), and some that are not full. */
    private static void promise11Full() {
        for (int codes : new int[] {1, 249, 250}) {
            int[] row = Signals.codes(codes, codes, 8);
            Supplier<VoiceDesk> heard = () -> {
                VoiceDesk desk = new VoiceDesk();
                desk.open(1, 6);
                Tapes.feedBytes(desk, row);
                Check.same("11: unpack", desk.unpack(1, true, codes), 4 * codes);
                desk.feed(1, 2, 3, 4, 5);
                return desk;
            };
            Supplier<VoiceDesk> taken = () -> {
                VoiceDesk desk = heard.get();
                Check.same("11: take of " + 4 * codes, desk.take(), 4 * codes);
                return desk;
            };
            Check.same("11: the TAPE's length", Picture.tapeLength(taken.get()), 4 * codes);
            Check.holds("11: OUT stays", Picture.out(taken).equals(Picture.out(heard)));
            int[] samples = heardByModel(6, row);
            checkTape("11: take of " + 4 * codes, taken, Tapes.bytesOf(samples));
            checkSaid("11: take of " + 4 * codes, taken, samples);
        }
        VoiceDesk full = new VoiceDesk();
        full.open(1, 6);
        Tapes.feedBytes(full, Signals.codes(3, 250, 8));
        full.unpack(1, true, 250);
        full.take();
        Check.none("11: feed behind 1000 that were taken", full.feed(0, 0, 0, 0, 0));
        Check.same("11: take once more", full.take(), 1000);
    }

    private static int[] heardByModel(int kind, int[] codes) {
        AdpcmModel narrow = new AdpcmModel(Math.min(5, Math.max(2, kind)));
        WideModel wide = new WideModel();
        int each = Scene.wide(kind) ? 2 : 1;
        int[] samples = new int[each * codes.length];
        for (int i = 0; i < codes.length; i++) {
            if (kind < 2) {
                samples[i] = LawModel.sample(kind, codes[i]);
            } else if (kind < 6) {
                samples[i] = narrow.hear(codes[i]);
            } else {
                samples[2 * i] = wide.hear(codes[i], WAYS[kind - 6]);
                samples[2 * i + 1] = wide.second();
            }
        }
        return samples;
    }

    private static int[] saidByModel(int kind, int[] samples) {
        AdpcmModel narrow = new AdpcmModel(Math.min(5, Math.max(2, kind)));
        WideModel wide = new WideModel();
        int each = Scene.wide(kind) ? 2 : 1;
        int[] codes = new int[samples.length / each];
        for (int i = 0; i < codes.length; i++) {
            if (kind < 2) {
                codes[i] = LawModel.code(kind, samples[i]);
            } else {
                codes[i] = kind < 6 ? narrow.say(samples[i]) : wide.pair(samples[2 * i], samples[2 * i + 1]);
            }
        }
        return codes;
    }

    /** Up to 250 bytes of the TAPE, by a line of A, whose codes all sound unlike. */
    private static void checkTape(String name, Supplier<VoiceDesk> scene, int[] bytes) {
        int[] first = Arrays.copyOf(bytes, Math.min(250, bytes.length));
        int[] samples = heardByModel(1, first);
        Supplier<VoiceDesk> heard = () -> {
            VoiceDesk desk = scene.get();
            desk.open(0, 1);
            desk.end(first.length);
            desk.unpack(0, true, first.length);
            return desk;
        };
        Check.holds(name + ": the TAPE's bytes", Picture.out(heard).equals(outOf(Tapes.bytesOf(samples))));
    }

    private static void checkSaid(String name, Supplier<VoiceDesk> scene, int[] samples) {
        Supplier<VoiceDesk> said = () -> {
            VoiceDesk desk = scene.get();
            desk.open(0, 0);
            Check.same(name + ": pack", desk.pack(0, true), samples.length);
            return desk;
        };
        Check.holds(name + ": the TAPE's samples", Picture.out(said).equals(outOf(saidByModel(0, samples))));
    }

    /** "NONE if there is none." */
    private static void promise12() {
        Scene none = new Scene(20, CLOSED, CLOSED, CLOSED, CLOSED);
        Scene seven = new Scene(20, 4, 0, 6, CLOSED);
        for (int i : new int[] {LEAST, -1, 0, 1, 999, 1000, MOST}) {
            Refusals.none("12: out(" + i + ") of an empty OUT", none, d -> d.out(i));
        }
        for (int i : new int[] {LEAST, -1, 7, 8, 999, 1000, 1001, MOST}) {
            Refusals.none("12: out(" + i + ") of seven", seven, d -> d.out(i));
        }
        Refusals.nothingDone("12: out(0)", seven, d -> d.out(0));
        int[] samples = {0x1020, 0x3040, 0x5060, 0x7080, 0x90a0 - 65536, 0xb0c0 - 65536, 0xd0e0 - 65536};
        for (int i = 0; i < 7; i++) {
            Check.same("12: out(" + i + ") of seven", seven.get().out(i), LawModel.code(1, samples[i]));
        }
        VoiceDesk full = new VoiceDesk();
        full.open(0, 8);
        Tapes.feedBytes(full, Signals.codes(9, 250, 8));
        full.unpack(0, true, 250);
        int last = heardByModel(8, Signals.codes(9, 250, 8))[499];
        Check.same("12: out(998) of 1000", full.out(998), last >> 8 & 255);
        Check.same("12: out(999) of 1000", full.out(999), last & 255);
        Check.none("12: out(1000) of 1000", full.out(1000));
    }

    /** "NONE, and nothing is done: l is closed" (of both promises) */
    private static void promise13And14Closed() {
        Scene scene = new Scene(20, 4, CLOSED, 6, CLOSED);
        Scene empty = new Scene(0, 4, CLOSED, 6, CLOSED);
        for (int l : new int[] {LEAST, -1, 1, 3, 4, MOST}) {
            for (boolean first : new boolean[] {true, false}) {
                Refusals.none("13: pack(" + l + ")", scene, d -> d.pack(l, first));
                Refusals.none("13: pack(" + l + ")", empty, d -> d.pack(l, first));
                Refusals.none("14: unpack(" + l + ", 20)", scene, d -> d.unpack(l, first, 20));
                Refusals.none("14: unpack(" + l + ", 40)", scene, d -> d.unpack(l, first, 40));
                Refusals.none("14: unpack(" + l + ", 0)", empty, d -> d.unpack(l, first, 0));
            }
        }
    }

    /** "the TAPE has no whole samples (of KINDS 6 .. 8: pairs)" */
    private static void promise13Refused(int kind) {
        int whole = Scene.wide(kind) ? 4 : 2;
        for (int length : new int[] {1, 2, 3, 4, 5, 6, 7, 8, 17, 18, 19, 20, 997, 998, 999, 1000}) {
            for (boolean first : new boolean[] {true, false}) {
                Scene scene = new Scene(length, CLOSED, kind, 3, 6);
                if (length % whole == 0) {
                    Check.same("13: pack of " + length + " bytes", scene.get().pack(1, first), length / whole);
                } else {
                    Refusals.none("13: pack of " + length + " bytes, kind " + kind, scene, d -> d.pack(1, first));
                }
            }
        }
    }

    /** An empty TAPE has no samples, all of them whole: OUT is no codes. */
    private static void promise13Empty(int kind) {
        Scene scene = new Scene(0, CLOSED, kind, 3, 6);
        Supplier<VoiceDesk> packed = () -> {
            VoiceDesk desk = scene.get();
            Check.same("13: pack of an empty TAPE", desk.pack(1, true), 0);
            return desk;
        };
        Check.same("13: OUT had a byte", scene.get().out(0) == NONE, false);
        Check.holds("13: OUT is empty then", Picture.out(packed).equals(outOf(new int[0])));
        Check.same("13: the TAPE is empty still", Picture.tapeLength(packed.get()), 0);
        for (int l = 0; l < 4; l++) {
            Check.holds("13: line " + l + " stays", Picture.line(packed, l).equals(Picture.line(scene, l)));
        }
    }

    /** A full TAPE: all codes, and nothing behind them. */
    private static void promise13Full(int kind) {
        int[] samples = Signals.voice(60 + kind, 500);
        samples[498] = 32767;
        samples[499] = -32768;
        for (boolean first : new boolean[] {true, false}) {
            Supplier<VoiceDesk> packed = () -> {
                VoiceDesk desk = new VoiceDesk();
                desk.open(1, kind);
                Tapes.feedSamples(desk, samples);
                Check.same("13: pack of 1000 bytes", desk.pack(1, first), Scene.wide(kind) ? 250 : 500);
                return desk;
            };
            int[] bytes = Tapes.packed(saidByModel(kind, samples), Scene.bits(kind), first);
            Check.holds("13: OUT of a full TAPE, kind " + kind, Picture.out(packed).equals(outOf(bytes)));
            Check.same("13: the TAPE is empty then", Picture.tapeLength(packed.get()), 0);
        }
    }

    /** "what is left of the last byte is 0", also where OUT had ones before. */
    private static void promise13LastByte(int kind) {
        int each = Scene.wide(kind) ? 2 : 1;
        for (int count = 1; count <= 9; count++) {
            int[] samples = Signals.noise(count + kind, each * count);
            for (boolean first : new boolean[] {true, false}) {
                Supplier<VoiceDesk> packed = () -> {
                    VoiceDesk desk = new VoiceDesk();
                    desk.open(0, 0);
                    desk.open(1, kind);
                    // samples of -1 .. -8 are all ones in their higher bytes, and 126 in their codes
                    Tapes.feedBytes(desk, new int[] {126, 126, 126, 126, 126, 126, 126, 126, 126, 126});
                    desk.unpack(0, true, 10);
                    Check.same("13: a byte of ones in OUT", desk.out(0), 255);
                    Tapes.feedSamples(desk, samples);
                    Check.same("13: pack", desk.pack(1, first), samples.length / (Scene.wide(kind) ? 2 : 1));
                    return desk;
                };
                int[] bytes = Tapes.packed(saidByModel(kind, samples), Scene.bits(kind), first);
                String name = "13: kind " + kind + ", " + count + " codes";
                Check.holds(name, Picture.out(packed).equals(outOf(bytes)));
                int left = 8 * bytes.length - count * Scene.bits(kind);
                int last = packed.get().out(bytes.length - 1);
                int rest = first ? last % (1 << left) : last >> (8 - left);
                Check.same(name + ": what is left", rest, 0);
            }
        }
    }

    /** "n is below 0 or above 250, or the TAPE does not have just so many bytes as n codes take" */
    private static void promise14Refused(int kind) {
        int bits = Scene.bits(kind);
        for (int n : new int[] {0, 1, 2, 3, 4, 5, 7, 8, 9, 16, 249, 250, 251}) {
            int take = (n * bits + 7) / 8;
            for (int length : new int[] {take - 1, take, take + 1}) {
                Scene scene = new Scene(Math.max(0, length), CLOSED, kind, 3, 6);
                String call = "14: kind " + kind + " unpack of " + n + " from " + length;
                if (length == take && n <= 250) {
                    Check.same(call, scene.get().unpack(1, true, n), n * (Scene.wide(kind) ? 4 : 2));
                } else if (length >= 0) {
                    Refusals.none(call, scene, d -> d.unpack(1, true, n));
                    Refusals.none(call, scene, d -> d.unpack(1, false, n));
                }
            }
        }
        Scene empty = new Scene(0, CLOSED, kind, 3, 6);
        for (int n : new int[] {LEAST, LEAST + 1, -250, -8, -1, 1, 251, 1 << 29, 1 << 30, MOST}) {
            Refusals.none("14: unpack of " + n + " from none", empty, d -> d.unpack(1, true, n));
        }
    }

    /** n of 0 takes no bytes: OUT is empty then, and the hearer has heard nothing. */
    private static void promise14NoCodes(int kind) {
        Scene scene = new Scene(0, CLOSED, kind, 3, 6);
        Supplier<VoiceDesk> unpacked = () -> {
            VoiceDesk desk = scene.get();
            Check.same("14: unpack of 0", desk.unpack(1, false, 0), 0);
            return desk;
        };
        Check.holds("14: OUT is empty then", Picture.out(unpacked).equals(outOf(new int[0])));
        for (int l = 0; l < 4; l++) {
            Check.holds("14: line " + l + " stays", Picture.line(unpacked, l).equals(Picture.line(scene, l)));
        }
    }

    /** n of 250: all samples, and nothing behind them; the TAPE is empty then. */
    private static void promise14Most(int kind) {
        int[] codes = Signals.codes(70 + kind, 250, Scene.bits(kind));
        for (boolean first : new boolean[] {true, false}) {
            Supplier<VoiceDesk> unpacked = () -> {
                VoiceDesk desk = new VoiceDesk();
                desk.open(1, kind);
                Tapes.feedBytes(desk, Tapes.packed(codes, Scene.bits(kind), first));
                Check.same("14: unpack of 250", desk.unpack(1, first, 250), Scene.wide(kind) ? 1000 : 500);
                return desk;
            };
            int[] bytes = Tapes.bytesOf(heardByModel(kind, codes));
            Check.holds("14: OUT of 250 codes, kind " + kind, Picture.out(unpacked).equals(outOf(bytes)));
            Check.same("14: the TAPE is empty then", Picture.tapeLength(unpacked.get()), 0);
        }
    }
}
