import java.util.HashMap;
import java.util.List;
import java.util.Map;
import java.util.function.ToIntFunction;

/** Calls that are refused, or only ask: what all calls show is as it was. */
final class Refusals {
    static final int LEAST = Integer.MIN_VALUE;
    static final int MOST = Integer.MAX_VALUE;

    private static final Map<Scene, List<Integer>> BEFORE = new HashMap<>();

    private Refusals() {
    }

    static void none(String name, Scene scene, ToIntFunction<VoiceDesk> call) {
        Check.none(name + " with " + scene, call.applyAsInt(scene.get()));
        nothingDone(name, scene, call);
    }

    static void nothingDone(String name, Scene scene, ToIntFunction<VoiceDesk> call) {
        List<Integer> before = BEFORE.computeIfAbsent(scene, Picture::of);
        List<Integer> after = Picture.of(() -> {
            VoiceDesk desk = scene.get();
            call.applyAsInt(desk);
            return desk;
        });
        Check.holds(name + " with " + scene + ": nothing is done", before.equals(after));
    }
}
