import java.lang.reflect.Constructor;
import java.lang.reflect.Field;
import java.lang.reflect.Member;
import java.lang.reflect.Method;
import java.lang.reflect.Modifier;
import java.nio.file.Files;
import java.nio.file.Path;
import java.util.Set;
import java.util.TreeSet;

/** The public face is the document's and no more, and the source keeps to the plainer rules of LANGUAGE.md. */
public final class FaceTest {
    private static final Set<String> FACE = Set.of(
        "boolean open(int,int)", "int kind(int)", "int say(int,int)", "int pair(int,int,int)",
        "int hear(int,int)", "int second(int)", "int inner(int,int,int)", "int feed(int,int,int,int,int)",
        "int end(int)", "int take()", "int out(int)", "int pack(int,boolean)",
        "int unpack(int,boolean,int)", "int pass(int,int,int)", "int law(int,int,int)");

    public static void main(String[] args) throws Exception {
        Check.same("NONE", VoiceDesk.NONE, -100000);
        Check.holds("public and final", VoiceDesk.class.getModifiers() == (Modifier.PUBLIC | Modifier.FINAL));
        Check.holds("the document's face is " + FACE, FACE.equals(faceOfDocument()));
        methods();
        fieldsAndConstructors();
        nestedClasses();
        words();
        Check.end();
    }

    /** The methods in the document's piece of Java, as "type name(types)". */
    private static Set<String> faceOfDocument() throws Exception {
        Set<String> face = new TreeSet<>();
        for (String line : Files.readAllLines(Path.of("../shared/DOC.md"))) {
            if (line.matches("    public \\w+ \\w+\\(.*\\);")) {
                String call = line.substring("    public ".length(), line.length() - 1);
                face.add(call.replaceAll("(int|boolean) \\w+(?=[,)])", "$1").replace(", ", ","));
            }
        }
        return face;
    }

    private static void methods() {
        Set<String> open = new TreeSet<>();
        for (Method method : VoiceDesk.class.getDeclaredMethods()) {
            if (isPrivate(method)) {
                Check.holds(method + " has a name of its own", isFreeName(method.getName()));
                continue;
            }
            StringBuilder text = new StringBuilder(method.getReturnType() + " " + method.getName() + "(");
            for (Class<?> type : method.getParameterTypes()) {
                text.append(text.charAt(text.length() - 1) == '(' ? "" : ",").append(type);
            }
            open.add(text.append(")").toString());
            Check.same(text.toString(), method.getModifiers(), Modifier.PUBLIC);
        }
        Check.holds("methods " + open, open.equals(FACE));
    }

    private static boolean isPrivate(Member member) {
        return Modifier.isPrivate(member.getModifiers());
    }

    private static boolean isChangingStatic(Field field) {
        return Modifier.isStatic(field.getModifiers()) && !Modifier.isFinal(field.getModifiers());
    }

    private static void fieldsAndConstructors() {
        for (Field field : VoiceDesk.class.getDeclaredFields()) {
            int none = Modifier.PUBLIC | Modifier.STATIC | Modifier.FINAL;
            boolean isNone = field.getName().equals("NONE") && field.getModifiers() == none;
            Check.holds("field " + field.getName(), isPrivate(field) || isNone);
            Check.holds(field + " is no static state", !isChangingStatic(field));
        }
        Constructor<?>[] all = VoiceDesk.class.getDeclaredConstructors();
        Check.same("constructors", all.length, 1);
        Check.holds("constructor", Modifier.isPublic(all[0].getModifiers()) && all[0].getParameterCount() == 0);
    }

    private static void nestedClasses() {
        for (Class<?> nested : VoiceDesk.class.getDeclaredClasses()) {
            Check.holds(nested + " is private and static",
                (nested.getModifiers() & (Modifier.PRIVATE | Modifier.STATIC)) == (Modifier.PRIVATE | Modifier.STATIC));
            for (Method method : nested.getDeclaredMethods()) {
                Check.holds(method + " has a name of its own", isFreeName(method.getName()));
                Check.holds(method + " takes at most seven", method.getParameterCount() <= 7);
            }
            for (Field field : nested.getDeclaredFields()) {
                Check.holds(field + " is no static state", !isChangingStatic(field));
            }
        }
    }

    private static boolean isFreeName(String name) {
        for (String call : FACE) {
            if (call.contains(" " + name + "(")) {
                return false;
            }
        }
        return true;
    }

    private static void words() throws Exception {
        String source = Files.readString(Path.of("src/main/java/VoiceDesk.java"));
        String code = source.replaceAll("(?s)/\\*.*?\\*/", " ").replaceAll("//[^\n]*", " ");
        String[] refused = {"throw", "throws", "try", "catch", "synchronized", "assert", "import", "package", "Exact"};
        for (String word : refused) {
            Check.holds("no word " + word, !code.matches("(?s).*\\b" + word + "\\b.*"));
        }
        Check.holds("no lambda", !code.contains("->"));
        Check.holds("no method reference", !code.contains("::"));
        Check.holds("no division", !code.contains("/") && !code.contains("%"));
    }
}
