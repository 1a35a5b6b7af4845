import java.io.IOException;
import java.lang.reflect.Constructor;
import java.lang.reflect.Field;
import java.lang.reflect.Member;
import java.lang.reflect.Method;
import java.lang.reflect.Modifier;
import java.nio.file.Files;
import java.nio.file.Path;
import java.util.ArrayList;
import java.util.Collections;
import java.util.List;
import java.util.TreeSet;

/** The public face as the document writes it, and what LANGUAGE.md asks of the classes. */
public final class FaceTest {
    private static final Path DOCUMENT = Path.of("../shared/DOC.md");
    private static final Path SOURCE = Path.of("src/main/java/GhostRooms.java");

    public static void main(String[] args) throws IOException {
        Check.due("the face", face(), documentedFace());
        nothingElseIsVisible();
        for (Class<?> nested : GhostRooms.class.getDeclaredClasses()) {
            Check.yes(nested + " is private and static",
                    Modifier.isPrivate(nested.getModifiers()) && Modifier.isStatic(nested.getModifiers()));
            sizes(nested);
        }
        sizes(GhostRooms.class);
        Check.yes("some twelve classes", GhostRooms.class.getDeclaredClasses().length <= 11);
        words();
        Check.end();
    }

    private static List<String> documentedFace() throws IOException {
        List<String> lines = new ArrayList<>();
        boolean inside = false;
        for (String line : Files.readAllLines(DOCUMENT)) {
            if (line.startsWith("```")) {
                inside = line.equals("```java");
            } else if (inside && line.startsWith("    public ") && !line.contains("=")) {
                lines.add(line.trim().replaceAll("(int|boolean) [a-z]+([,)])", "$1$2"));
            }
        }
        Collections.sort(lines);
        return lines;
    }

    private static List<String> face() {
        List<String> lines = new ArrayList<>();
        for (Constructor<?> c : GhostRooms.class.getConstructors()) {
            lines.add("public GhostRooms(" + types(c.getParameterTypes()) + ")" + thrown(c.getExceptionTypes()) + ";");
        }
        for (Method m : GhostRooms.class.getDeclaredMethods()) {
            if (Modifier.isPublic(m.getModifiers())) {
                lines.add("public " + m.getReturnType().getSimpleName() + " " + m.getName() + "("
                        + types(m.getParameterTypes()) + ")" + thrown(m.getExceptionTypes()) + ";");
            }
        }
        Collections.sort(lines);
        return lines;
    }

    private static String types(Class<?>[] types) {
        List<String> names = new ArrayList<>();
        for (Class<?> type : types) {
            names.add(type.getSimpleName());
        }
        return String.join(", ", names);
    }

    private static String thrown(Class<?>[] types) {
        return types.length == 0 ? "" : " throws " + types(types);
    }

    private static void nothingElseIsVisible() {
        TreeSet<String> publicNames = new TreeSet<>();
        for (Method m : GhostRooms.class.getDeclaredMethods()) {
            if (Modifier.isPublic(m.getModifiers())) {
                publicNames.add(m.getName());
            }
        }
        for (Method m : GhostRooms.class.getDeclaredMethods()) {
            if (!Modifier.isPublic(m.getModifiers())) {
                Check.yes(m + " is private", Modifier.isPrivate(m.getModifiers()));
                Check.no(m + " has its own name", publicNames.contains(m.getName()));
            }
        }
        for (Field f : GhostRooms.class.getDeclaredFields()) {
            boolean isNone = f.getName().equals("NONE");
            Check.due(f + " is visible", Modifier.isPublic(f.getModifiers()), isNone);
            Check.yes(f + " is visible or private", isNone || Modifier.isPrivate(f.getModifiers()));
        }
        Check.yes("the class is public and final", Modifier.isPublic(GhostRooms.class.getModifiers())
                && Modifier.isFinal(GhostRooms.class.getModifiers()));
    }

    private static boolean isStatic(Member member) {
        return Modifier.isStatic(member.getModifiers());
    }

    private static void sizes(Class<?> type) {
        int fields = 0;
        for (Field f : type.getDeclaredFields()) {
            Check.yes(f + " is final if it is static", !isStatic(f) || Modifier.isFinal(f.getModifiers()));
            fields += isStatic(f) ? 0 : 1;
        }
        Check.yes(type + " has some twenty fields", fields <= 20);
        for (Method m : type.getDeclaredMethods()) {
            Check.yes(m + " has at most seven parameters", m.getParameterCount() <= 7);
        }
    }

    private static void words() throws IOException {
        String source = Files.readString(SOURCE);
        for (String word : new String[] {"import", "package", "synchronized", "assert", "finally", "System.", "Object ",
            "->", "::", "NullPointerException", "ArithmeticException", "ArrayIndexOutOfBounds", "RuntimeException",
            "catch (IndexOutOfBounds", "catch (Exception", "catch (Throwable", "getMessage", "static {"}) {
            Check.no("the source has " + word, source.contains(word));
        }
    }
}
