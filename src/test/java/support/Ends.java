import java.util.LinkedHashSet;
import java.util.Set;

/** Notes which ends of the document (of what is LIMITED, WRAPPED, cut, at most, at least) a model's step stands at. */
final class Ends {
    private final Set<String> met = new LinkedHashSet<>();

    void clear() {
        met.clear();
    }

    /** The ends that the step at hand has met, each by its name and the value it was met with. */
    Set<String> met() {
        return met;
    }

    void at(String name, long value, long... ends) {
        for (long end : ends) {
            if (value == end) {
                met.add(name + " " + end);
            }
        }
    }

    /** The last value within and the first one beyond, on both sides. */
    void around(String name, long value, long least, long most) {
        if (value <= least || value >= most) {
            at(name, value, least - 1, least, most, most + 1);
        }
    }

    void sixteenBits(String name, long value) {
        around(name, value, -32768, 32767);
    }

    /** Powers of 2 and one less: between them SIZE goes up by one. */
    void size(String name, long amount) {
        if ((amount & (amount - 1)) == 0 || (amount & (amount + 1)) == 0) {
            at(name, amount, amount);
        }
    }

    /** Ends that move: how far the value is beyond them. */
    void beyond(String name, long value, long most) {
        at(name + " above", value - most, 0, 1);
        at(name + " below", -value - most, 0, 1);
    }
}
