import java.io.IOException;
import java.lang.reflect.Constructor;
import java.lang.reflect.Executable;
import java.lang.reflect.Field;
import java.lang.reflect.Method;
import java.lang.reflect.Modifier;
import java.nio.file.Files;
import java.nio.file.Path;
import java.util.Set;
import java.util.StringJoiner;
import java.util.TreeSet;

/** The public face as the document writes it, line by line, with the exceptions in their order. */
public final class FaceTest {
    private static final Path DOCUMENT = Path.of("..", "shared", "DOC.md");

    private FaceTest() {
    }

    public static void main(String[] args) throws IOException, IllegalAccessException {
        if (Files.isReadable(DOCUMENT)) {
            compareWithDocument();
        } else {
            System.out.println("The face is not compared with the document: it is not at " + DOCUMENT);
        }
        Due.end("FaceTest");
    }

    private static void compareWithDocument() throws IOException, IllegalAccessException {
        Set<String> due = new TreeSet<>();
        Set<String> promised = new TreeSet<>();
        boolean inFace = false;
        for (String line : Files.readAllLines(DOCUMENT)) {
            if (line.startsWith("```")) {
                inFace = !inFace;
            } else if (inFace && line.startsWith("    ")) {
                due.add(withoutNames(line.strip()));
            } else if (line.startsWith("`") && line.contains("(") && line.contains("`: ")) {
                promised.add("public " + withoutNames(line.substring(1, line.indexOf("`: "))));
            }
        }
        Set<String> got = declared();
        Due.is("lines of the face", due.size(), 33);
        for (String line : due) {
            Due.is("the class has " + line, got.contains(line) ? 1 : 0, 1);
        }
        for (String line : got) {
            Due.is("the document has " + line, due.contains(line) ? 1 : 0, 1);
        }
        got.removeIf(line -> line.contains("NONE"));
        Due.isText("the calls above the promises", promised.toString(), got.toString());
        Due.isText("the class", Modifier.toString(SupperSeats.class.getModifiers()), "public final");
        Due.is("classes above it", SupperSeats.class.getSuperclass() == Object.class ? 1 : 0, 1);
        Due.is("interfaces of it", SupperSeats.class.getInterfaces().length, 0);
    }

    /** "int guest(int family, int size) throws E, F;" becomes "int guest(int, int) throws E, F". */
    private static String withoutNames(String line) {
        return line.replace(";", "").replaceAll("(int|long) \\w+(?=[,)])", "$1");
    }

    private static Set<String> declared() throws IllegalAccessException {
        Set<String> lines = new TreeSet<>();
        for (Field field : SupperSeats.class.getDeclaredFields()) {
            if (!Modifier.isPrivate(field.getModifiers())) {
                lines.add(Modifier.toString(field.getModifiers()) + " " + field.getType() + " " + field.getName() + " = "
                    + field.getInt(null));
            }
        }
        for (Constructor<?> constructor : SupperSeats.class.getDeclaredConstructors()) {
            lines.add(told(constructor, constructor.getName()));
        }
        for (Method method : SupperSeats.class.getDeclaredMethods()) {
            if (!Modifier.isPrivate(method.getModifiers()) && !method.isSynthetic()) {
                lines.add(told(method, method.getReturnType() + " " + method.getName()));
            }
        }
        return lines;
    }

    private static String told(Executable call, String name) {
        StringJoiner types = new StringJoiner(", ", "(", ")");
        for (Class<?> type : call.getParameterTypes()) {
            types.add(type.getSimpleName());
        }
        StringJoiner kinds = new StringJoiner(", ", " throws ", "");
        kinds.setEmptyValue("");
        for (Class<?> kind : call.getExceptionTypes()) {
            kinds.add(kind.getSimpleName());
        }
        return Modifier.toString(call.getModifiers()) + " " + name + types + kinds;
    }
}
