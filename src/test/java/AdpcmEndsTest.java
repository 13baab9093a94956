import java.util.HashMap;
import java.util.Map;
import java.util.Set;
import java.util.TreeSet;

/**
 * Terms, 2. G.726: what is LIMITED, WRAPPED, cut, at most, at least, or taken modulo, on each side of each end.
 * Each run below stands just at some ends at some moments; there the class must be as the document's words.
 */
public final class AdpcmEndsTest {
    private static final String[][] RUNS = {
        {
            "hear codes 849 400", "hear loud 61 400", "hear loud 5312 400", "hear loud 6332 400",
            "hear loud 34743 400", "hear loud 36917 400", "hear pattern 1323 400", "hear pattern 2120 400",
            "hear pattern 5651 400", "hear pattern 7591 400", "hear steady 3 1697", "hear stubborn 55 400",
            "hear stubborn 681 400", "hear stubborn 1296 400", "hear stubborn 4977 400", "hear stubborn 5036 400",
            "hear stubborn 24186 400", "say pieces 109 400", "say pieces 80642 400", "say pieces 81292 400",
            "say pieces 428878 400", "say pieces 767381 400", "say voice 77 400", "say voice 3758 400"
        },
        {
            "hear loud 12950 400", "hear pattern 78 400", "hear pattern 596 400", "hear pattern 623 400",
            "hear pattern 4612 400", "hear pattern 5032 400", "hear pattern 26242 400", "hear steady 4 1697",
            "hear stubborn 91 400", "hear stubborn 552 400", "hear stubborn 4418 400", "hear stubborn 10158 400",
            "hear stubborn 10720 400", "hear stubborn 38725 400", "say pieces 12881 400", "say pieces 81953 400",
            "say pieces 82350 400", "say pieces 498029 400", "say pieces 556638 400", "say voice 27 400",
            "say voice 399 400", "say voice 2561 400", "say voice 2623 400", "say voice 3768 400"
        },
        {
            "hear loud 15337 400", "hear pattern 228 400", "hear pattern 426 400", "hear pattern 5023 400",
            "hear pattern 5402 400", "hear pattern 9436 400", "hear pattern 39891 400", "hear steady 9 1697",
            "hear stubborn 673 400", "hear stubborn 801 400", "hear stubborn 1732 400", "hear stubborn 3678 400",
            "hear stubborn 3927 400", "hear stubborn 5747 400", "hear stubborn 6240 400", "hear stubborn 25431 400",
            "say pieces 388 400", "say pieces 868 400", "say pieces 1476 400", "say pieces 5130 400",
            "say pieces 9708 400", "say pieces 45506 400", "say voice 49 400", "say voice 1242 400",
            "say voice 1300 400", "say voice 2362 400"
        },
        {
            "hear codes 4832 400", "hear loud 4116 400", "hear loud 9091 400", "hear loud 56486 400",
            "hear pattern 1050 400", "hear pattern 4223 400", "hear pattern 6145 400", "hear pattern 7775 400",
            "hear pattern 55044 400", "hear stubborn 374 400", "hear stubborn 983 400", "hear stubborn 2650 400",
            "hear stubborn 3237 400", "hear stubborn 5058 400", "hear stubborn 5955 400", "hear stubborn 7220 400",
            "hear stubborn 8054 400", "hear stubborn 8473 400", "hear stubborn 9528 400", "say pieces 369 400",
            "say pieces 442 400", "say pieces 877 400", "say pieces 911 400", "say pieces 3721 400",
            "say voice 364 400", "say voice 652 400", "say voice 814 400", "say voice 864 400",
            "say voice 906 400", "say voice 1289 400", "say voice 1421 400", "say voice 3704 400"
        }
    };
    /** One end is looked at so many times, for at one moment alone it may make no difference that shows. */
    private static final int MOST_MOMENTS = 4;

    public static void main(String[] args) {
        for (int k = 2; k <= 5; k++) {
            Map<String, Integer> met = new HashMap<>();
            for (String text : RUNS[k - 2]) {
                Run run = new Run(text, k);
                for (int moment : moments(k, run, met)) {
                    checkMoment(k, run, moment);
                }
            }
            for (String end : due(k)) {
                Check.holds("k " + k + ": a run meets the end '" + end + "'", met.containsKey(end));
            }
        }
        Check.end();
    }

    /** The steps at which a run meets ends that have not been looked at often enough. */
    private static Set<Integer> moments(int k, Run run, Map<String, Integer> met) {
        Set<Integer> moments = new TreeSet<>();
        AdpcmModel model = new AdpcmModel(k);
        for (int i = 0; i < run.steps; i++) {
            step(model, run, i);
            for (String end : model.ends.met()) {
                if (met.merge(end, 1, Integer::sum) <= MOST_MOMENTS) {
                    moments.add(i);
                }
            }
        }
        return moments;
    }

    private static int step(AdpcmModel model, Run run, int i) {
        return run.said ? model.say(run.row[i]) : model.hear(run.row[i]);
    }

    private static int step(VoiceDesk desk, Run run, int i) {
        return run.said ? desk.say(1, run.row[i]) : desk.hear(1, run.row[i]);
    }

    /** Answers around the moment, and all inner numbers at it and a little later. */
    private static void checkMoment(int k, Run run, int moment) {
        VoiceDesk desk = new VoiceDesk();
        desk.open(1, k);
        AdpcmModel model = new AdpcmModel(k);
        int from = Math.max(0, moment - 2);
        int to = Math.min(run.steps, moment + 6);
        Tapes.bring(desk, 1, k, run, from);
        for (int i = 0; i < to; i++) {
            int due = step(model, run, i);
            if (i >= from) {
                Check.same("k " + k + " " + run.text + " at " + i, step(desk, run, i), due);
            }
            if (i == moment || i == to - 1) {
                checkNumbers("k " + k + " " + run.text + " after " + i, desk, run.said ? 0 : 1, model);
            }
        }
    }

    private static void checkNumbers(String what, VoiceDesk desk, int side, AdpcmModel model) {
        for (int n = 0; n < 24; n++) {
            Check.same(what + " inner " + n, desk.inner(1, side, n), model.number(n));
        }
    }

    /**
     * The ends that runs can meet. Those that none can, of all k: TABLE and y >> 2 below 0 but for TABLE -2048; l above
     * 9 in TR; a of 12416 where p is unlike PK2 (A1 is at most 15360 - A2, so a stays at most 12288 there); a SIZE of 15
     * in saying.
     */
    private static Set<String> due(int k) {
        Set<String> due = new TreeSet<>();
        for (String wrapped : new String[] {"Z", "SE"}) {
            add(due, wrapped, -32769, -32768, 32767, 32768);
        }
        sizes(due, "TIMES amount of a", 0, 13);
        add(due, "TIMES w", -1, 0);
        add(due, "TIMES p * 2 to the w", 32512, 32768);
        add(due, "TIMES f", 32);
        add(due, "STEP AP", 255, 256);
        add(due, "STEP f", -1, 0, 1);
        add(due, "d", -1, 0);
        sizes(due, "say: m >> 1", 0, 13);
        for (long bound : AdpcmModel.bounds(k)) {
            add(due, "BOUND " + bound, -1, 0);
            add(due, "BOUND " + bound + " below 0", -1, 0);
        }
        add(due, "heard: SR", -8193, -8192, 8191, 8192);
        add(due, "DS", -1, 0, 1);
        add(due, "TR t - h with TD 0", 0, 1);
        add(due, "TR t - h with TD 1", 0, 1);
        add(due, "Y", 543, 544, 5120, 5121);
        add(due, "u", -8192, -8191, 8191, 8192);
        add(due, "a, p unlike PK2,", -12160, -12159);
        add(due, "a, p like PK2,", -12416, -12415, 12159, 12160);
        add(due, "A1 above", 0, 1);
        add(due, "A1 below", 0, 1);
        add(due, "B", -32768, 32767, 32768);
        sizes(due, "FLOAT of SR", 0, 14);
        sizes(due, "FLOAT of SR below 0,", 1, 14);
        add(due, "TD a", -11777, -11776);
        add(due, "AP y", 1535, 1536);
        add(due, "AP amount less DML >> 3", -1, 0);
        if (k > 2) {
            // with two bits t is never 0
            add(due, "TIMES f", -992);
            add(due, "FLOAT of DQ", 0);
            add(due, "FLOAT of DQ below 0,", 0);
        }
        if (k == 5) {
            dueOfFive(due);
        }
        return due;
    }

    /** With fewer bits t is too small for these; and Bi, less by Bi >> 8, never falls below -32768. */
    private static void dueOfFive(Set<String> due) {
        add(due, "SR", -32769, -32768, 32767, 32768);
        add(due, "DS", -32769, -32768, 32767, 32768);
        add(due, "B", -32769);
        add(due, "TIMES f", -1, 1023);
        add(due, "FLOAT of DQ", 16320, 16384);
        add(due, "FLOAT of DQ below 0,", 16320, 16384);
        add(due, "FLOAT of SR", 32767);
        add(due, "FLOAT of SR below 0,", 32767, 32768);
    }

    private static void add(Set<String> due, String name, long... values) {
        for (long value : values) {
            due.add(name + " " + value);
        }
    }

    private static void sizes(Set<String> due, String name, long least, int most) {
        for (int n = 0; n <= most; n++) {
            long power = 1L << n;
            if (power - 1 >= least) {
                add(due, name, power - 1);
            }
            add(due, name, power);
        }
    }
}
