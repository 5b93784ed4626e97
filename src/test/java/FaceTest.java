import java.io.IOException;
import java.lang.reflect.Constructor;
import java.lang.reflect.Field;
import java.lang.reflect.Method;
import java.lang.reflect.Modifier;
import java.nio.file.Files;
import java.nio.file.Path;
import java.util.Arrays;
import java.util.HashSet;
import java.util.List;
import java.util.Set;
import java.util.TreeSet;

/** The public face is the document's, and the file keeps to what can be seen of ../shared/LANGUAGE.md from outside. */
public final class FaceTest {
    private static final List<String> FACE = Arrays.asList("int feed(long,long,long)", "int province()", "int day()",
            "int person(int,int)", "int odds(int,int)", "int likes(int,int)", "boolean two(int,int,int)",
            "boolean say(int,int)", "boolean hush(int)", "boolean walk(int,int)", "int moment()", "int part(int,int)",
            "boolean keep(int,int)", "boolean undo()", "int judged(int)", "int bigamists()", "int mend(int)",
            "int chance(int,int)", "int within(int,int,int)", "int half(int,int)", "int safest(int)", "int haven(int)",
            "int matches(int)", "int code(int,int)", "int may(int,int)", "int rota(int,int)", "int company(int)",
            "boolean hear(int)", "int who()", "int likely()", "int ask()", "int rests(int,int,int)",
            "int generations(int,int,int)", "boolean mark(int,boolean)", "int count(int)");

    private FaceTest() {
    }

    public static void main(String[] args) throws IOException {
        methods();
        fieldsAndConstructors();
        nested();
        source();
        Check.end("FaceTest");
    }

    private static void methods() {
        Set<String> found = new TreeSet<>();
        for (Method m : SnapWed.class.getDeclaredMethods()) {
            if (Modifier.isPublic(m.getModifiers())) {
                StringBuilder parameters = new StringBuilder();
                for (Class<?> c : m.getParameterTypes()) {
                    parameters.append(parameters.length() == 0 ? "" : ",").append(c.getName());
                }
                found.add(m.getReturnType().getName() + " " + m.getName() + "(" + parameters + ")");
            } else {
                Check.due(m.getName() + " is private", Modifier.isPrivate(m.getModifiers()), true);
            }
        }
        Check.due("methods " + found, found.equals(new TreeSet<>(FACE)), true);
    }

    private static void fieldsAndConstructors() {
        Check.due("final", Modifier.isFinal(SnapWed.class.getModifiers()), true);
        for (Field f : SnapWed.class.getDeclaredFields()) {
            boolean constant = f.getName().equals("NONE");
            Check.due(f.getName() + " is as visible as due", Modifier.isPublic(f.getModifiers()), constant);
            Check.due(f.getName() + " is private", Modifier.isPrivate(f.getModifiers()), !constant);
            if (Modifier.isStatic(f.getModifiers())) {
                Check.due(f.getName() + " is final", Modifier.isFinal(f.getModifiers()), true);
            }
        }
        Constructor<?>[] made = SnapWed.class.getDeclaredConstructors();
        Check.due("one constructor", made.length, 1);
        Check.due("public", Modifier.isPublic(made[0].getModifiers()), true);
    }

    private static void nested() {
        Set<String> face = new HashSet<>();
        for (String line : FACE) {
            face.add(line.substring(line.indexOf(' ') + 1, line.indexOf('(')));
        }
        Class<?>[] inside = SnapWed.class.getDeclaredClasses();
        Check.due("some twelve classes", inside.length <= 12, true);
        for (Class<?> c : inside) {
            Check.due(c + " is static", Modifier.isStatic(c.getModifiers()), true);
            Check.due(c + " is not public", Modifier.isPublic(c.getModifiers()), false);
            int fields = 0;
            for (Field f : c.getDeclaredFields()) {
                fields += Modifier.isStatic(f.getModifiers()) ? 0 : 1;
            }
            Check.due(c + " has some twenty fields", fields <= 20, true);
            for (Method m : c.getDeclaredMethods()) {
                Check.due(c + "." + m.getName() + " bears no name of the face", face.contains(m.getName()), false);
                Check.due(c + "." + m.getName() + " takes seven at most", m.getParameterCount() <= 7, true);
            }
        }
    }

    private static void source() throws IOException {
        String text = Files.readString(Path.of("src/main/java/SnapWed.java"));
        for (String word : new String[] {"->", "::", "Exact(", "finally", "synchronized", "assert ", "ordinal()",
            "catch", "package ", "hashCode", "getMessage", "float ", "double ", "System.out", "static {", ".name()"}) {
            Check.due("no " + word, text.contains(word), false);
        }
        for (int i = 0; i < text.length(); i++) {
            if (text.charAt(i) > 126) {
                Check.due("sign " + i, text.charAt(i), ' ');
            }
        }
        for (String line : text.split("\n")) {
            if (line.startsWith("import ")) {
                boolean known = line.equals("import java.util.Arrays;")
                        || line.equals("import java.util.NoSuchElementException;");
                Check.due(line, known, true);
            }
        }
    }
}
