import java.nio.file.Files;
import java.nio.file.Path;
import java.util.Arrays;
import java.util.regex.Matcher;
import java.util.regex.Pattern;
import java.util.stream.LongStream;

/**
 * Each number of the document's tables, read out of its own text, is the models' number. The other tests hold
 * the class to the models, so a slip of the pen in both is seen here.
 */
public final class TablesTest {
    private static final Pattern TWO = Pattern.compile("(\\d+), (\\d+): (-?\\d+)");

    public static void main(String[] args) throws Exception {
        String doc = Files.readString(Path.of("../shared/DOC.md"));
        for (int k = 2; k <= 5; k++) {
            adpcm(from(from(doc, "By codes 0, 1"), "k " + k + ":"), k);
        }
        sieveAndScale(doc);
        factors(doc);
        weights(doc);
        Check.end();
    }

    private static void adpcm(String row, int k) {
        same("BOUNDS of " + k, AdpcmModel.bounds(k), after(row, "BOUNDS"));
        same("TABLE of " + k, AdpcmModel.table(k), after(row, "TABLE"));
        same("WEIGHT of " + k, AdpcmModel.weight(k), after(row, "WEIGHT"));
        same("PACE of " + k, AdpcmModel.pace(k), k < 5 ? after(row, "PACE")
            : joined(times(5, 0), times(5, 512), after(row, "PACE 0 five times, 512 five times,")));
        Check.same("BOUNDS of " + k + " are", AdpcmModel.bounds(k).length, (1 << (k - 1)) - 1);
        Check.same("codes of " + k + " are", AdpcmModel.table(k).length, 1 << (k - 1));
    }

    private static void sieveAndScale(String doc) {
        same("COEFFICIENTS", WideModel.coefficients(), after(doc, "COEFFICIENTS c0 .. c11:"));
        same("Q", WideModel.q(), after(doc, "Q1 ..:"));
        same("ROOTS", WideModel.roots(), after(doc, "ROOTS 0 .. 31:"));
        Check.same("COEFFICIENTS are", WideModel.coefficients().length, 12);
        Check.same("Q are", WideModel.q().length, 29);
        Check.same("ROOTS are", WideModel.roots().length, 32);
    }

    private static void factors(String doc) {
        same("U", WideModel.u(), after(doc, "U(0 ..):"));
        same("V", WideModel.v(), after(doc, " V:"));
        long[] x56 = after(doc, "X of 56, by IL >> 1, 0 ..:");
        long[] last56 = after(doc, "16 .. 29 as 2 .. 15 without their signs,");
        same("X of 56", LongStream.range(0, 32).map(i -> WideModel.x56((int) i)).toArray(),
            joined(x56, unsigned(x56, 2), last56));
        long[] x64 = joined(times(4, -136), after(doc, "-136 four times,"));
        long[] last64 = after(doc, "32 .. 59 as 4 .. 31 without their signs,");
        same("X of 64", LongStream.range(0, 64).map(i -> WideModel.x64((int) i)).toArray(),
            joined(x64, unsigned(x64, 4), last64));
    }

    private static void weights(String doc) {
        String low = from(doc, "WL(r): of r");
        Matcher lows = TWO.matcher(low.substring(0, low.indexOf('.')));
        int found = 0;
        while (lows.find()) {
            found++;
            Check.same("WL " + lows.group(), WideModel.lowWeight(number(lows, 1)), number(lows, 3));
            Check.same("WL " + lows.group(), WideModel.lowWeight(number(lows, 2)), number(lows, 3));
        }
        Check.same("pairs of WL", found, 8);
        String high = from(doc, "WH: of IH");
        Matcher highs = TWO.matcher(high.substring(0, high.indexOf('.')));
        while (highs.find()) {
            found++;
            Check.same("WH " + highs.group(), WideModel.highWeight(number(highs, 1)), number(highs, 3));
            Check.same("WH " + highs.group(), WideModel.highWeight(number(highs, 2)), number(highs, 3));
        }
        Check.same("pairs of WL and WH", found, 10);
    }

    private static int number(Matcher match, int group) {
        return Integer.parseInt(match.group(group));
    }

    private static String from(String text, String label) {
        int at = text.indexOf(label);
        Check.holds("the document has '" + label + "'", at >= 0);
        return at < 0 ? "" : text.substring(at);
    }

    /** The numbers that follow a label, up to the first that is none. */
    private static long[] after(String text, String label) {
        String rest = from(text, label);
        Matcher numbers = Pattern.compile("\\G\\s*(-?\\d+)").matcher(rest);
        numbers.region(Math.min(label.length(), rest.length()), rest.length());
        LongStream.Builder all = LongStream.builder();
        while (numbers.find()) {
            all.add(Long.parseLong(numbers.group(1)));
        }
        return all.build().toArray();
    }

    private static long[] times(int count, long value) {
        long[] all = new long[count];
        Arrays.fill(all, value);
        return all;
    }

    private static long[] unsigned(long[] row, int from) {
        return Arrays.stream(row).skip(from).map(Math::abs).toArray();
    }

    private static long[] joined(long[]... rows) {
        return Arrays.stream(rows).flatMapToLong(Arrays::stream).toArray();
    }

    private static void same(String name, long[] got, long[] want) {
        Check.holds(name + ": " + Arrays.toString(got) + ", the document " + Arrays.toString(want),
            want.length > 0 && Arrays.equals(got, want));
    }
}
