import java.util.HashMap;
import java.util.Map;
import java.util.Set;
import java.util.TreeSet;

/**
 * Terms, 3. G.722: what is LIMITED, cut, at most, or taken modulo, on each side of each end.
 * Each run below stands just at some ends at some moments; there the class must be as the document's words.
 */
public final class WideEndsTest {
    private static final int[] WAYS = {64, 56, 48};
    /** By kind, 6 .. 8. What does not hang on the way of hearing is looked at with kind 6 alone. */
    private static final String[][] RUNS = {
        {
            "hear loud 1460 400", "hear loud 2691 400", "hear loud 2715 400", "hear loud 3340 870",
            "hear loud 3551 730", "hear loud 4624 400", "hear loud 4680 400", "hear loud 5127 400",
            "hear loud 5152 670", "hear loud 5964 1050", "hear loud 6295 400", "hear loud 6679 400",
            "hear loud 10878 400", "hear loud 13336 400", "hear loud 34253 400", "hear pattern 273 400",
            "hear pattern 496 400", "hear pattern 518 400", "hear pattern 913 400", "hear pattern 2506 400",
            "hear pattern 2533 400", "hear pattern 3223 400", "hear pattern 3976 400", "hear pattern 5498 400",
            "hear pattern 5551 400", "hear pattern 5695 400", "hear pattern 7294 400", "hear pattern 8392 400",
            "hear stubborn 121 400", "hear stubborn 178 780", "hear stubborn 247 780", "hear stubborn 274 1010",
            "hear stubborn 671 400", "hear stubborn 867 400", "hear stubborn 923 400", "hear stubborn 940 400",
            "hear stubborn 991 400", "hear stubborn 1319 400", "hear stubborn 1436 400", "hear stubborn 1893 400",
            "hear stubborn 2424 400", "hear stubborn 4333 400", "hear stubborn 4933 400", "hear stubborn 5161 400",
            "hear stubborn 6127 400", "hear stubborn 6286 400", "hear stubborn 12504 400", "hear stubborn 25285 400",
            "hear stubborn 37000 400", "say jumps 40824 250", "say jumps 322398 250", "say jumps 342784 250",
            "say jumps 654063 250", "say jumps 801563 250", "say jumps 1102812 250", "say jumps 1211615 250",
            "say jumps 1243900 250", "say jumps 1273204 250", "say pieces 230 250", "say pieces 267 250",
            "say pieces 32885 250", "say voice 94 250", "say voice 157 250", "say voice 410 250",
            "say voice 2208 250", "say voice 2722 250", "say voice 3779 250"
        },
        {
            "hear pattern 1028 400", "hear pattern 3442 400", "hear stubborn 381 400", "hear stubborn 507 400",
            "hear stubborn 760 400", "hear stubborn 2354 400"
        },
        {
            "hear loud 1629 400", "hear pattern 1028 400", "hear stubborn 812 400", "hear stubborn 989 400",
            "hear stubborn 1159 400", "hear stubborn 2543 400", "hear stubborn 3424 400"
        }
    };
    /** One end is looked at so many times, for at one moment alone it may make no difference that shows. */
    private static final int MOST_MOMENTS = 4;

    public static void main(String[] args) {
        for (int kind = 6; kind <= 8; kind++) {
            Map<String, Integer> met = new HashMap<>();
            for (String text : RUNS[kind - 6]) {
                Run run = new Run(text, kind);
                for (int moment : moments(kind, run, met)) {
                    checkMoment(kind, run, moment);
                }
            }
            for (String end : kind == 6 ? due() : dueOfHearing()) {
                Check.holds("kind " + kind + ": a run meets the end '" + end + "'", met.containsKey(end));
            }
        }
        Check.end();
    }

    /** The steps at which a run meets ends that have not been looked at often enough. */
    private static Set<Integer> moments(int kind, Run run, Map<String, Integer> met) {
        Set<Integer> moments = new TreeSet<>();
        WideModel model = new WideModel();
        for (int i = 0; i < run.steps; i++) {
            step(model, kind, run, i);
            for (String end : model.ends.met()) {
                if (met.merge(end, 1, Integer::sum) <= MOST_MOMENTS) {
                    moments.add(i);
                }
            }
        }
        return moments;
    }

    private static int step(WideModel model, int kind, Run run, int i) {
        return run.said ? model.pair(run.row[2 * i], run.row[2 * i + 1]) : model.hear(run.row[i], WAYS[kind - 6]);
    }

    private static int step(VoiceDesk desk, Run run, int i) {
        return run.said ? desk.pair(2, run.row[2 * i], run.row[2 * i + 1]) : desk.hear(2, run.row[i]);
    }

    /** Answers around the moment, and all inner numbers at it and a little later. */
    private static void checkMoment(int kind, Run run, int moment) {
        VoiceDesk desk = new VoiceDesk();
        desk.open(2, kind);
        WideModel model = new WideModel();
        int from = Math.max(0, moment - 2);
        int to = Math.min(run.steps, moment + 6);
        Tapes.bring(desk, 2, kind, run, from);
        for (int i = 0; i < to; i++) {
            int due = step(model, kind, run, i);
            if (i >= from) {
                Check.same("kind " + kind + " " + run.text + " at " + i, step(desk, run, i), due);
                Check.same("kind " + kind + " " + run.text + " second at " + i, desk.second(2), model.second());
            }
            if (i == moment || i == to - 1) {
                checkNumbers("kind " + kind + " " + run.text + " after " + i, desk, run.said ? 0 : 1, model);
            }
        }
    }

    private static void checkNumbers(String what, VoiceDesk desk, int side, WideModel model) {
        for (int n = 0; n < 84; n++) {
            Check.same(what + " inner " + n, desk.inner(2, side, n), model.number(n));
        }
    }

    /**
     * The ends that runs can meet. Those that none can: A1 and Bi are LIMITED, but their amounts are never beyond 27840
     * and 32768; 2 Di, too: Di is at most 10228.
     */
    private static Set<String> due() {
        Set<String> due = dueOfHearing();
        for (String band : new String[] {"low ", "high "}) {
            dueOfBand(due, band);
        }
        add(due, "low NB", -1, 0, 18432, 18433);
        add(due, "high NB", -1, 0, 22528, 22529);
        add(due, "low shift", -1, 0, 8);
        add(due, "high shift", -1, 0, 10);
        add(due, "low d", 0, 1);
        add(due, "high d", -1, 0, 1);
        for (String d : new String[] {"d of LOW", "d of HIGH"}) {
            add(due, d, -32769, -32768, -1, 0, 32767, 32768);
        }
        add(due, "high 564", -1, 0);
        add(due, "high 564 below 0", -1, 0);
        for (int i = 1; i <= 29; i++) {
            add(due, "Q" + i, -1, 0);
            add(due, "Q" + i + " below 0", -1, 0);
        }
        return due;
    }

    private static Set<String> dueOfHearing() {
        Set<String> due = new TreeSet<>();
        add(due, "LOW", -16385, -16384, 16383, 16384);
        add(due, "HIGH", -16385, -16384, 16383, 16384);
        add(due, "first heard", -32769, -32768, 32767, 32768);
        add(due, "second heard", -32769, -32768, 32767, 32768);
        return due;
    }

    private static void dueOfBand(Set<String> due, String band) {
        for (String limited : new String[] {"R0", "P0", "SP", "SZ", "S"}) {
            add(due, band + limited, -32769, -32768, 32767, 32768);
        }
        add(due, band + "P0", -1, 0);
        add(due, band + "2 R1", -16385, -16384, 16383, 16384);
        add(due, band + "2 R2", -16385, -16384, 16383, 16384);
        add(due, band + "4 A1, alike,", -8193, -8192, 8191, 8192);
        add(due, band + "4 A1, unlike,", -8193, -8192, 8191, 8192);
        add(due, band + "A2", -12289, -12288, 12288, 12289);
        add(due, band + "A1 above", 0, 1);
        add(due, band + "A1 below", 0, 1);
        add(due, band + "NB >> 6", 31, 32);
    }

    private static void add(Set<String> due, String name, long... values) {
        for (long value : values) {
            due.add(name + " " + value);
        }
    }
}
