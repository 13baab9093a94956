import java.lang.reflect.Method;
import java.nio.file.Files;
import java.nio.file.Path;
import java.util.HashSet;
import java.util.Set;
import java.util.regex.Matcher;
import java.util.regex.Pattern;

/** The calls that README.md shows answer what stands behind them, and none of the face is left out. */
public final class ReadmeTest {
    private static final Pattern CALL =
        Pattern.compile("desk\\.(\\w+)\\(([^)]*)\\);\\s*// (true|false|NONE|-?\\d+)(:.*)?");

    public static void main(String[] args) throws Exception {
        VoiceDesk desk = null;
        Set<String> shown = new HashSet<>();
        for (String line : Files.readAllLines(Path.of("README.md"))) {
            if (line.equals("VoiceDesk desk = new VoiceDesk();")) {
                desk = new VoiceDesk();
            } else if (line.startsWith("desk.")) {
                shown.add(check(desk, line));
            }
        }
        for (Method method : VoiceDesk.class.getDeclaredMethods()) {
            if (java.lang.reflect.Modifier.isPublic(method.getModifiers())) {
                Check.holds("README shows " + method.getName(), shown.contains(method.getName()));
            }
        }
        Check.end();
    }

    private static String check(VoiceDesk desk, String line) throws Exception {
        Matcher call = CALL.matcher(line);
        if (!call.matches()) {
            Check.holds("a call and its answer: " + line, false);
            return "";
        }
        Object got = answer(desk, call.group(1), call.group(2));
        String want = call.group(3).equals("NONE") ? String.valueOf(VoiceDesk.NONE) : call.group(3);
        Check.holds(line + " (answered " + got + ")", String.valueOf(got).equals(want));
        return call.group(1);
    }

    private static Object answer(VoiceDesk desk, String name, String list) throws Exception {
        for (Method method : VoiceDesk.class.getMethods()) {
            if (method.getName().equals(name)) {
                return method.invoke(desk, values(list));
            }
        }
        return "no such call";
    }

    private static Object[] values(String list) {
        if (list.isEmpty()) {
            return new Object[0];
        }
        String[] words = list.split(", ");
        Object[] values = new Object[words.length];
        for (int i = 0; i < words.length; i++) {
            boolean truth = words[i].equals("true") || words[i].equals("false");
            values[i] = truth ? (Object) Boolean.valueOf(words[i]) : (Object) Integer.decode(words[i]);
        }
        return values;
    }
}
