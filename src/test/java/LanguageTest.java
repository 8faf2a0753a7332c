import java.io.IOException;
import java.lang.reflect.Executable;
import java.lang.reflect.Field;
import java.lang.reflect.Modifier;
import java.nio.file.Files;
import java.nio.file.Path;
import java.util.ArrayList;
import java.util.HashSet;
import java.util.List;
import java.util.Set;
import java.util.regex.Matcher;
import java.util.regex.Pattern;

/** The rules of LANGUAGE.md that can be seen from the class's text and its parts, without reading what it means. */
public final class LanguageTest {
    private static final Path SOURCE = Path.of("src", "main", "java", "SupperSeats.java");

    /** Words and signs that the rules leave out, or that this class has no need of. */
    private static final String[] LEFT_OUT = {"\\bimport\\b", "\\bpackage\\b", "->", "::", "\\bstatic\\s*\\{", "\\btry\\b",
        "\\bcatch\\b", "\\bfinally\\b", "\\bsynchronized\\b", "\\bassert\\b", "\\binstanceof\\b", "\\bfloat\\b",
        "\\bvolatile\\b", "\\btransient\\b", "\\bnative\\b", "\\bprotected\\b", "\\bString\\b", "\\bObject\\b",
        "\\bSystem\\b", "\\bThread\\b", "\\bRandom\\b", "\\bclone\\b", "\\bvar\\b", "\\bequals\\b", "\\bhashCode\\b",
        "\\btoString\\b"};
    private static final Set<String> OF_MATH = Set.of("min", "max", "abs");
    private static final Set<String> KINDS = Set.of("IllegalStateException", "IllegalArgumentException",
        "IndexOutOfBoundsException");
    private static final int MOST_LINES_OF_METHOD = 60;
    private static final int MOST_PARAMETERS = 7;
    private static final int MOST_CLASSES = 12;
    private static final int MOST_FIELDS = 20;

    private LanguageTest() {
    }

    public static void main(String[] args) throws IOException {
        String text = Files.readString(SOURCE);
        for (int i = 0; i < text.length(); i++) {
            char sign = text.charAt(i);
            Due.is("sign " + i, sign == '\n' || sign >= 32 && sign < 127 ? 1 : 0, 1);
        }
        String code = withoutCommentsAndTexts(text);
        for (String word : LEFT_OUT) {
            Due.is("places of " + word, places(code, word).size(), 0);
        }
        namesOfLibrary(code);
        exceptions(code);
        lengths(code);
        classes();
        Due.end("LanguageTest");
    }

    /** Lines stay where they are. */
    private static String withoutCommentsAndTexts(String text) {
        StringBuilder code = new StringBuilder();
        Matcher parts = Pattern.compile("/\\*.*?\\*/|//[^\\n]*|\"[^\"\\n]*\"|'.'|.", Pattern.DOTALL).matcher(text);
        while (parts.find()) {
            String part = parts.group();
            if (part.length() == 1) {
                code.append(part);
            } else if (part.startsWith("\"")) {
                code.append("\"\"");
            } else if (part.startsWith("'")) {
                code.append('0');
            } else {
                code.append(part.replaceAll("[^\\n]", " "));
            }
        }
        return code.toString();
    }

    private static List<String> places(String code, String pattern) {
        List<String> places = new ArrayList<>();
        Matcher matcher = Pattern.compile(pattern).matcher(code);
        while (matcher.find()) {
            places.add(matcher.group());
        }
        return places;
    }

    private static Set<String> ownClasses() {
        Set<String> own = new HashSet<>();
        own.add("SupperSeats");
        for (Class<?> inside : SupperSeats.class.getDeclaredClasses()) {
            own.add(inside.getSimpleName());
        }
        return own;
    }

    private static void namesOfLibrary(String code) {
        for (String name : places(code, "\\b[A-Z][a-z]\\w*(\\s*\\.\\s*\\w+)?")) {
            String[] parts = name.split("\\s*\\.\\s*");
            boolean fine = ownClasses().contains(parts[0]) || KINDS.contains(parts[0])
                || parts[0].equals("Math") && parts.length == 2 && OF_MATH.contains(parts[1]);
            Due.is("a name of the library: " + name, fine ? 1 : 0, 1);
        }
    }

    private static void exceptions(String code) {
        int thrown = places(code, "\\bthrow\\b").size();
        Due.is("throw of an exception with a written text", places(code, "\\bthrow new \\w+Exception\\(\"\"\\);").size(),
            thrown);
    }

    private static void lengths(String code) {
        String[] lines = code.split("\n", -1);
        for (int first = 0; first < lines.length; first++) {
            if (!lines[first].matches(" {4,8}[^ ].*\\).*\\{")) {
                continue;
            }
            String end = lines[first].replaceAll("\\S.*", "") + "}";
            int last = first;
            while (last < lines.length - 1 && !lines[last].equals(end)) {
                last++;
            }
            Due.is("line " + (first + 1) + " begins a method of few lines", last - first < MOST_LINES_OF_METHOD ? 1 : 0, 1);
        }
    }

    private static void classes() {
        Class<?>[] inside = SupperSeats.class.getDeclaredClasses();
        Due.is("few classes", inside.length < MOST_CLASSES ? 1 : 0, 1);
        parts(SupperSeats.class);
        for (Class<?> one : inside) {
            Due.is(one + " is static", Modifier.isStatic(one.getModifiers()) ? 1 : 0, 1);
            Due.is(one + " is not public", Modifier.isPublic(one.getModifiers()) ? 1 : 0, 0);
            parts(one);
        }
    }

    private static void parts(Class<?> one) {
        int fields = 0;
        for (Field field : one.getDeclaredFields()) {
            if (Modifier.isStatic(field.getModifiers())) {
                Due.is(field + " is final", Modifier.isFinal(field.getModifiers()) ? 1 : 0, 1);
            } else {
                Due.is(field + " is private", Modifier.isPrivate(field.getModifiers()) ? 1 : 0, 1);
                fields++;
            }
        }
        Due.is("few fields of " + one, fields <= MOST_FIELDS ? 1 : 0, 1);
        List<Executable> calls = new ArrayList<>(List.of(one.getDeclaredMethods()));
        calls.addAll(List.of(one.getDeclaredConstructors()));
        Set<String> open = new HashSet<>();
        for (Executable call : calls) {
            Due.is("few parameters of " + call, call.getParameterCount() <= MOST_PARAMETERS ? 1 : 0, 1);
            if (Modifier.isPublic(call.getModifiers())) {
                open.add(call.getName());
            }
        }
        for (Executable call : calls) {
            boolean hidden = !Modifier.isPublic(call.getModifiers());
            Due.is(call + " bears the name of a public one", hidden && open.contains(call.getName()) ? 1 : 0, 0);
        }
    }
}
