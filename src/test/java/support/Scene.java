import java.util.Arrays;
import java.util.function.Supplier;

/** Makes desks with a past, alike each time: lines that have spoken and heard, bytes on the TAPE and in OUT. */
final class Scene implements Supplier<VoiceDesk> {
    static final int CLOSED = -1;

    private final int tape;
    private final int[] kinds;

    /** So many bytes on the TAPE; the kinds of lines 0 .. 3. OUT is empty if all are closed. */
    Scene(int tape, int... kinds) {
        this.tape = tape;
        this.kinds = kinds;
    }

    static boolean wide(int kind) {
        return kind >= 6;
    }

    static int bits(int kind) {
        return kind >= 2 && kind <= 5 ? kind : 8;
    }

    @Override
    public VoiceDesk get() {
        VoiceDesk desk = new VoiceDesk();
        fillOut(desk);
        for (int l = 0; l < kinds.length; l++) {
            if (kinds[l] != CLOSED) {
                desk.open(l, kinds[l]);
                useLine(desk, l, kinds[l]);
            }
        }
        for (int at = 0; at < tape; at += 20) {
            desk.feed(0x01020304 + at, 0xfe7f80ff - at, at * 65793, ~at, 0x55aa1234 + at);
        }
        desk.end(tape);
        return desk;
    }

    /** Seven bytes, by the first line that will be open. */
    private void fillOut(VoiceDesk desk) {
        for (int l = 0; l < kinds.length; l++) {
            if (kinds[l] != CLOSED) {
                desk.open(l, 1);
                desk.feed(0x10203040, 0x50607080, 0x90a0b0c0, 0xd0e0f000, 0);
                desk.end(14);
                desk.pack(l, true);
                return;
            }
        }
    }

    private static void useLine(VoiceDesk desk, int l, int kind) {
        for (int i = 0; i < 6; i++) {
            int x = (i % 3 - 1) * (9000 + 700 * l) + 31 * i;
            if (wide(kind)) {
                desk.pair(l, x, -x / 2);
            } else {
                desk.say(l, x);
            }
            desk.hear(l, (7 * i + l + 1) % (1 << bits(kind)));
        }
    }

    @Override
    public String toString() {
        return "TAPE " + tape + ", kinds " + Arrays.toString(kinds);
    }
}
