import java.io.IOException;
import java.lang.reflect.Constructor;
import java.lang.reflect.Field;
import java.lang.reflect.Method;
import java.lang.reflect.Modifier;
import java.nio.file.Files;
import java.nio.file.Path;
import java.util.ArrayList;
import java.util.HashSet;
import java.util.List;
import java.util.Set;
import java.util.TreeSet;
import java.util.regex.Matcher;
import java.util.regex.Pattern;

/** What of LANGUAGE.md, and of the document's face, can be looked for. */
public final class LanguageTest {
    private static final Path SOURCE = Path.of("src/main/java/SweptRound.java");
    private static final Path DOC = Path.of("../shared/DOC.md");

    private static final Due due = new Due();

    public static void main(String[] args) throws IOException {
        String source = Files.readString(SOURCE);
        String code = withoutCommentsAndTexts(source);
        face();
        members();
        words(code);
        library(code);
        sizes(code);
        due.is("signs of the source are 1 to 127", source.chars().filter(c -> c < 1 || c > 127).count(), 0);
        due.end();
    }

    private static String withoutCommentsAndTexts(String source) {
        return source.replaceAll("(?s)/\\*.*?\\*/", "").replaceAll("//[^\n]*", "")
            .replaceAll("\"[^\"\n]*\"", "\"\"").replaceAll("'[^'\n]+'", "0");
    }

    private static void face() throws IOException {
        Set<String> want = new TreeSet<>();
        Matcher m = Pattern.compile("(?m)^    public (int \\w+\\(.*\\));$").matcher(Files.readString(DOC));
        while (m.find()) {
            want.add(m.group(1).replaceAll("(int|long) \\w+([,)])", "$1$2"));
        }
        due.is("methods of the face", want.size(), 38);
        Set<String> got = new TreeSet<>();
        for (Method method : SweptRound.class.getDeclaredMethods()) {
            if (!Modifier.isPrivate(method.getModifiers())) {
                due.is(method + " is public and nothing else", method.getModifiers(), Modifier.PUBLIC);
                List<String> types = new ArrayList<>();
                for (Class<?> type : method.getParameterTypes()) {
                    types.add(type.getName());
                }
                got.add(method.getReturnType() + " " + method.getName() + "(" + String.join(", ", types) + ")");
            }
        }
        due.is("the face is " + want + ", and not " + got, want.equals(got) ? 1 : 0, 1);
        due.is("public, final", SweptRound.class.getModifiers(), Modifier.PUBLIC | Modifier.FINAL);
        Constructor<?>[] made = SweptRound.class.getDeclaredConstructors();
        due.is("constructors", made.length, 1);
        due.is("a public one without parameters", made[0].getModifiers() + made[0].getParameterCount(), Modifier.PUBLIC);
    }

    private static void members() {
        Set<String> names = new HashSet<>();
        for (Method method : SweptRound.class.getDeclaredMethods()) {
            if (Modifier.isPublic(method.getModifiers())) {
                names.add(method.getName());
            }
        }
        for (Field field : SweptRound.class.getDeclaredFields()) {
            due.is(field + " is private", Modifier.isPrivate(field.getModifiers()) ? 1 : 0, 1);
        }
        Class<?>[] inside = SweptRound.class.getDeclaredClasses();
        due.is("classes, at most 12", inside.length + 1 <= 12 ? 1 : 0, 1);
        for (Class<?> c : inside) {
            due.is(c + " is static", Modifier.isStatic(c.getModifiers()) ? 1 : 0, 1);
            due.is(c + " is private", Modifier.isPrivate(c.getModifiers()) ? 1 : 0, 1);
            due.is(c + " has none inside", c.getDeclaredClasses().length, 0);
            for (Method method : c.getDeclaredMethods()) {
                due.is(method + " has a name of its own", names.contains(method.getName()) ? 1 : 0, 0);
            }
            fields(c);
        }
        for (Method method : SweptRound.class.getDeclaredMethods()) {
            boolean hides = !Modifier.isPublic(method.getModifiers()) && names.contains(method.getName());
            due.is(method + " has a name of its own", hides ? 1 : 0, 0);
            due.is(method + ", parameters", method.getParameterCount() <= 7 ? 1 : 0, 1);
        }
        fields(SweptRound.class);
    }

    private static void fields(Class<?> c) {
        int many = 0;
        for (Field field : c.getDeclaredFields()) {
            boolean still = Modifier.isStatic(field.getModifiers());
            due.is(field + ", static and not final", still && !Modifier.isFinal(field.getModifiers()) ? 1 : 0, 0);
            many += still ? 0 : 1;
        }
        due.is(c + ", fields", many <= 20 ? 1 : 0, 1);
    }

    private static void words(String code) {
        String[] refused = {
            "throw", "throws", "try", "catch", "finally", "synchronized", "assert", "import", "package", "native",
            "protected", "volatile", "transient", "equals", "hashCode", "toString", "lambda", "static\\s*\\{",
            "->", "::", "Exact\\b", "Object", "Thread", "Random", "System\\.(?!arraycopy)", "Math\\.(?!min|max)",
            "while\\s*\\(\\s*true", "for\\s*\\(\\s*;\\s*;", "instanceof"
        };
        for (String word : refused) {
            String whole = Character.isLetter(word.charAt(0)) ? "\\b" + word : word;
            String ended = word.matches("\\w+") ? whole + "\\b" : whole;
            due.is("in the source: " + word, Pattern.compile(ended).matcher(code).results().count(), 0);
        }
    }

    private static void library(String code) {
        Set<String> known = Set.of(
            "SweptRound", "String", "System", "Math", "Override", "Street", "Law", "Reader", "Speech", "YardKind",
            "SweptKind", "CoveredKind", "WaitedKind", "DoubledKind", "EmptyKind", "BlownKind");
        Matcher m = Pattern.compile("\\b[A-Z][a-z]\\w*").matcher(code);
        while (m.find()) {
            due.is("a class that is known: " + m.group(), known.contains(m.group()) ? 1 : 0, 1);
        }
    }

    /** A method begins with a line that ends in ") {" and isn't a statement, and ends where its indent comes back. */
    private static void sizes(String code) {
        String[] lines = code.split("\n", -1);
        int methods = 0;
        for (int i = 0; i < lines.length; i++) {
            Matcher m = Pattern.compile("^( {4}| {8})(public |private |static |int |void |boolean |[A-Z]).*\\) \\{$")
                .matcher(lines[i]);
            if (!m.matches()) {
                continue;
            }
            int end = i;
            while (!lines[end].equals(m.group(1) + "}")) {
                end++;
            }
            methods++;
            due.is("lines of " + lines[i].trim(), end - i + 1 <= 60 ? 1 : 0, 1);
        }
        due.is("methods were found", methods > 80 ? 1 : 0, 1);
    }
}
