import java.io.IOException;
import java.lang.reflect.Constructor;
import java.lang.reflect.Field;
import java.lang.reflect.Method;
import java.lang.reflect.Modifier;
import java.nio.file.Files;
import java.nio.file.Path;
import java.util.Arrays;
import java.util.List;
import java.util.Set;
import java.util.TreeSet;
import java.util.regex.Matcher;
import java.util.regex.Pattern;

/** The public face, and what of the language's rules can be seen in the source. */
public final class FaceTest {
    private static final Set<String> FACE = Set.of(
            "int feed(int, int, int, int, int) throws IllegalStateException",
            "void end(int) throws IllegalArgumentException",
            "int read()", "int fault()", "int count(int)", "int step(int, int, int)", "int run()", "int found(int)",
            "int show(int, int)", "int length()", "int who(int)", "int race(int, int)", "int thread(int, int, int)",
            "int field(int, int)", "int owner(int, int)", "int stuck(int)", "int whole(int)", "int doubts()",
            "int doubt(int, int)", "int meet(int, int, int, int)", "int guards(int)", "int rings()");

    public static void main(String[] args) throws IOException, IllegalAccessException {
        members();
        constants();
        List<String> lines = Files.readAllLines(Path.of("src/main/java/RaceLocks.java"));
        words(lines);
        methods(lines);
        Due.close("FaceTest");
    }

    private static void is(String what, boolean so) {
        Due.is(what, so ? 1 : 0, 1);
    }

    private static void members() {
        Set<String> face = new TreeSet<>();
        Set<String> names = new TreeSet<>();
        for (Method m : RaceLocks.class.getDeclaredMethods()) {
            if (!Modifier.isPrivate(m.getModifiers())) {
                StringBuilder text = new StringBuilder(m.getReturnType().getSimpleName() + " " + m.getName() + "(");
                for (int i = 0; i < m.getParameterCount(); i++) {
                    text.append(i == 0 ? "" : ", ").append(m.getParameterTypes()[i].getSimpleName());
                }
                text.append(")");
                for (Class<?> thrown : m.getExceptionTypes()) {
                    text.append(" throws ").append(thrown.getSimpleName());
                }
                face.add(text.toString());
                names.add(m.getName());
                is(text + " is public", Modifier.isPublic(m.getModifiers()) && !Modifier.isStatic(m.getModifiers()));
            }
        }
        is("the methods of the face are " + face, face.equals(FACE));
        for (Class<?> inside : RaceLocks.class.getDeclaredClasses()) {
            int how = inside.getModifiers();
            is(inside + " is static and not public", Modifier.isStatic(how) && !Modifier.isPublic(how) && !Modifier.isProtected(how));
            for (Method m : inside.getDeclaredMethods()) {
                is(m + " has no name of the face", !names.contains(m.getName()));
            }
            is(inside + " has few fields", inside.getDeclaredFields().length <= 24);
        }
        for (Method m : RaceLocks.class.getDeclaredMethods()) {
            is(m + " is private or of the face", !Modifier.isPrivate(m.getModifiers()) || !names.contains(m.getName()));
        }
        Constructor<?>[] makers = RaceLocks.class.getDeclaredConstructors();
        is("one constructor", makers.length == 1 && makers[0].getParameterCount() == 0 && Modifier.isPublic(makers[0].getModifiers()));
        is("few classes", RaceLocks.class.getDeclaredClasses().length + 1 <= 12);
        is("the class is public and final", RaceLocks.class.getModifiers() == (Modifier.PUBLIC | Modifier.FINAL));
    }

    private static void constants() throws IllegalAccessException {
        Set<String> open = new TreeSet<>();
        for (Field f : RaceLocks.class.getDeclaredFields()) {
            if (!Modifier.isPrivate(f.getModifiers())) {
                int publicConstant = Modifier.PUBLIC | Modifier.STATIC | Modifier.FINAL;
                is(f + " is a constant", f.getModifiers() == publicConstant && f.getType() == int.class);
                open.add(f.getName() + f.getInt(null));
            } else if (Modifier.isStatic(f.getModifiers())) {
                is(f + " is final", Modifier.isFinal(f.getModifiers()));
            }
        }
        is("the constants are " + open, open.equals(Set.of("NONE-1", "STATE-101", "OUTSIDE-102", "MANY-103")));
    }

    private static void words(List<String> lines) {
        String[] ruledOut = {"->", "::", "try ", "catch ", "finally", "synchronized", "assert ", "static {", "instanceof",
            "hashCode", ".equals(", "Exact(", "getMessage", "System.out", "System.nano", "System.current", "Random",
            "Thread.", "double ", "float ", "Object", "HashMap", "@", "package ", "\" +", "+ \""};
        for (int i = 0; i < lines.size(); i++) {
            String line = lines.get(i);
            for (String word : ruledOut) {
                is("line " + (i + 1) + " is without " + word, !line.contains(word));
            }
            is("line " + (i + 1) + " is short", line.length() <= 110);
            is("line " + (i + 1) + " imports nothing else", !line.startsWith("import ") || line.equals("import java.util.Arrays;"));
        }
    }

    private static void methods(List<String> lines) {
        Pattern head = Pattern.compile("^( {4}| {8})(public |private |static |final )*[A-Za-z\\[\\]]+ ?[a-zA-Z]*\\((.*)\\)( throws \\w+)? \\{$");
        int found = 0;
        for (int i = 0; i < lines.size(); i++) {
            Matcher m = head.matcher(lines.get(i));
            if (!m.matches()) {
                continue;
            }
            found++;
            int to = i;
            while (!lines.get(to).equals(m.group(1) + "}")) {
                to++;
            }
            is("the method of line " + (i + 1) + " is short", to - i <= 60);
            long parameters = m.group(3).isEmpty() ? 0 : Arrays.stream(m.group(3).split(",")).count();
            is("the method of line " + (i + 1) + " has few parameters", parameters <= 7);
        }
        is("methods are found", found > 100);
    }
}
