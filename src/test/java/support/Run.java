/** A run of samples said or codes heard, as a text of a few words: "hear loud 17 1200", "say pieces 3 400". */
final class Run {
    final String text;
    final boolean said;
    /** Of a wide line that speaks, two samples a step. */
    final int[] row;
    final int steps;

    Run(String text, int kind) {
        this.text = text;
        String[] words = text.split(" ");
        int seed = Integer.parseInt(words[2]);
        said = words[0].equals("say");
        steps = Integer.parseInt(words[3]);
        int bits = kind >= 2 && kind <= 5 ? kind : 8;
        row = said ? samples(words[1], seed, kind >= 6 ? 2 * steps : steps) : codes(words[1], seed, steps, bits);
    }

    private static int[] samples(String name, int seed, int count) {
        switch (name) {
            case "voice":
                return Signals.voice(seed, count);
            case "pieces":
                return Signals.pieces(seed, count);
            case "jumps":
                return Signals.jumps(seed, count);
            default:
                throw new IllegalArgumentException(name);
        }
    }

    private static int[] codes(String name, int seed, int count, int bits) {
        switch (name) {
            case "codes":
                return Signals.codes(seed, count, bits);
            case "stubborn":
                return Signals.stubborn(seed, count, bits);
            case "pattern":
                return Signals.pattern(seed, count, bits);
            case "loud":
                return Signals.loud(seed, count, bits);
            case "steady":
                return Signals.steady(seed, count, bits);
            default:
                throw new IllegalArgumentException(name);
        }
    }
}
