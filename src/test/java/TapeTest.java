/** Promises 9 (feed), 10 (end), 11 (take) and 12 (out). */
public final class TapeTest {
    public static void main(String[] args) {
        feedCountsAndRefuses();
        feedOrder();
        endCuts();
        takeReplaces();
        outEdges();
        longestOut();
        Check.end();
    }

    private static void feedCountsAndRefuses() {
        VoiceDesk desk = new VoiceDesk();
        for (int i = 1; i <= 50; i++) {
            Check.same("feed " + i, desk.feed(i, -i, 0, 1, 2), 20 * i);
        }
        Check.none("feed beyond 1000", desk.feed(1, 1, 1, 1, 1));
        Check.same("tape after a refused feed", desk.end(1000), 1000);
        Check.same("end", desk.end(981), 981);
        Check.none("feed to 1001", desk.feed(1, 1, 1, 1, 1));
        Check.same("tape stays", desk.end(981), 981);
        Check.same("end", desk.end(980), 980);
        Check.same("feed to 1000", desk.feed(1, 1, 1, 1, 1), 1000);
    }

    /** A mu line unpacks one byte a code, so OUT tells what stands on the TAPE. */
    private static void feedOrder() {
        VoiceDesk desk = new VoiceDesk();
        desk.open(0, 0);
        desk.feed(0x01020304, 0xfffefdfc, 0x80000001, 0x7f00ff10, 0x0a0b0c0d);
        desk.feed(0x11223344, 0, -1, 0x00ff00ff, 0x99aabbcc);
        int[] due = {
            1, 2, 3, 4, 255, 254, 253, 252, 128, 0, 0, 1, 127, 0, 255, 16, 10, 11, 12, 13,
            0x11, 0x22, 0x33, 0x44, 0, 0, 0, 0, 255, 255, 255, 255, 0, 255, 0, 255, 0x99, 0xaa, 0xbb, 0xcc
        };
        checkTape("feed", desk, due);
    }

    private static void checkTape(String what, VoiceDesk desk, int[] bytes) {
        Check.same(what + " unpack", desk.unpack(0, true, bytes.length), 2 * bytes.length);
        int[] samples = new int[bytes.length];
        for (int i = 0; i < bytes.length; i++) {
            samples[i] = LawModel.sample(0, bytes[i]);
        }
        Tapes.checkOut(what, desk, Tapes.bytesOf(samples), 0, 1000);
    }

    private static void endCuts() {
        VoiceDesk desk = new VoiceDesk();
        desk.open(0, 0);
        Check.same("end of an empty tape", desk.end(0), 0);
        Check.none("end beyond an empty tape", desk.end(1));
        desk.feed(0x01020304, 0x05060708, 3, 4, 5);
        Check.none("end below 0", desk.end(-1));
        Check.none("end below 0", desk.end(Integer.MIN_VALUE));
        Check.none("end beyond", desk.end(21));
        Check.none("end beyond", desk.end(Integer.MAX_VALUE));
        Check.same("end of all", desk.end(20), 20);
        Check.same("end", desk.end(6), 6);
        Check.none("what was cut is gone", desk.end(7));
        Check.same("feed behind the end", desk.feed(0x11121314, 0, 0, 0, 0), 26);
        Check.same("end", desk.end(9), 9);
        checkTape("end", desk, new int[] {1, 2, 3, 4, 5, 6, 17, 18, 19});
    }

    private static void takeReplaces() {
        VoiceDesk desk = new VoiceDesk();
        desk.open(0, 0);
        desk.open(1, 1);
        desk.feed(1, 2, 3, 4, 5);
        Check.same("take of an empty OUT", desk.take(), 0);
        Check.none("the tape is empty then", desk.end(1));
        Tapes.feedSamples(desk, new int[] {0, 1000, -1000});
        Check.same("pack", desk.pack(0, true), 3);
        desk.feed(9, 9, 9, 9, 9);
        Check.same("take", desk.take(), 3);
        Check.none("the old tape is gone", desk.end(4));
        int[] codes = {LawModel.code(0, 0), LawModel.code(0, 1000), LawModel.code(0, -1000)};
        Tapes.checkOut("OUT stays", desk, codes, 0, 3);
        Check.same("take again", desk.take(), 3);
        Check.same("feed behind what was taken", desk.feed(0x77000000, 0, 0, 0, 0), 23);
        desk.end(4);
        Tapes.checkOut("OUT is apart from the tape", desk, codes, 0, 3);
        checkTape("take", desk, new int[] {codes[0], codes[1], codes[2], 0x77});
    }

    private static void outEdges() {
        VoiceDesk desk = new VoiceDesk();
        desk.open(1, 1);
        Check.none("out(0) of an empty OUT", desk.out(0));
        Tapes.feedSamples(desk, new int[] {0, -1});
        Check.none("the tape is not OUT", desk.out(0));
        desk.pack(1, false);
        Check.same("out(0)", desk.out(0), 213);
        Check.same("out(1)", desk.out(1), 85);
        for (int i : new int[] {-1, 2, 3, 999, 1000, 1001, Integer.MIN_VALUE, Integer.MAX_VALUE}) {
            Check.none("out(" + i + ")", desk.out(i));
        }
    }

    private static void longestOut() {
        VoiceDesk desk = new VoiceDesk();
        desk.open(0, 6);
        Tapes.feedBytes(desk, Signals.codes(7, 250, 8));
        Check.same("unpack", desk.unpack(0, true, 250), 1000);
        Check.holds("last byte", desk.out(999) >= 0);
        Check.none("out(1000)", desk.out(1000));
        Check.same("take of 1000", desk.take(), 1000);
        Check.none("feed behind 1000", desk.feed(0, 0, 0, 0, 0));
        Check.same("pack of what was taken", desk.pack(0, true), 250);
    }
}
