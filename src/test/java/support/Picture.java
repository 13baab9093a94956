import java.util.ArrayList;
import java.util.List;
import java.util.function.Supplier;

/** All that calls can show of a desk. Each part is asked of a desk made anew, for a desk has 512 calls alone. */
final class Picture {
    private static final int NUMBERS = 84;
    private static final int OUT_PART = 340;

    private Picture() {
    }

    static List<Integer> of(Supplier<VoiceDesk> scene) {
        List<Integer> shown = new ArrayList<>();
        for (int l = 0; l < 4; l++) {
            shown.addAll(line(scene, l));
        }
        shown.addAll(out(scene));
        shown.addAll(tape(scene));
        return shown;
    }

    static List<Integer> line(Supplier<VoiceDesk> scene, int l) {
        List<Integer> shown = new ArrayList<>();
        VoiceDesk desk = scene.get();
        shown.add(desk.kind(l));
        shown.add(desk.second(l));
        for (int side = 0; side < 2; side++) {
            for (int what = 0; what < NUMBERS; what++) {
                shown.add(desk.inner(l, side, what));
            }
        }
        return shown;
    }

    /** All places from 0 to 1019, with NONE where there is no byte. */
    static List<Integer> out(Supplier<VoiceDesk> scene) {
        List<Integer> shown = new ArrayList<>();
        for (int from = 0; from < 3 * OUT_PART; from += OUT_PART) {
            VoiceDesk desk = scene.get();
            for (int i = from; i < from + OUT_PART; i++) {
                shown.add(desk.out(i));
            }
        }
        return shown;
    }

    /** The length; the first 250 bytes, heard by a line of A; all bytes, as samples that are said. */
    static List<Integer> tape(Supplier<VoiceDesk> scene) {
        int length = tapeLength(scene.get());
        List<Integer> shown = new ArrayList<>();
        shown.add(length);
        shown.addAll(out(() -> {
            VoiceDesk desk = scene.get();
            desk.open(0, 1);
            int heard = Math.min(length, 250);
            desk.end(heard);
            Check.same("unpack of the TAPE", desk.unpack(0, true, heard), 2 * heard);
            return desk;
        }));
        shown.addAll(out(() -> {
            VoiceDesk desk = scene.get();
            desk.open(0, 1);
            desk.end(length / 2 * 2);
            Check.same("pack of the TAPE", desk.pack(0, true), length / 2);
            return desk;
        }));
        return shown;
    }

    static int tapeLength(VoiceDesk desk) {
        int more = desk.feed(0, 0, 0, 0, 0);
        if (more != VoiceDesk.NONE) {
            return more - 20;
        }
        for (int n = 1000; n > 980; n--) {
            if (desk.end(n) == n) {
                return n;
            }
        }
        Check.holds("the TAPE has a length", false);
        return 0;
    }
}
