import java.io.IOException;
import java.lang.reflect.Constructor;
import java.lang.reflect.Field;
import java.lang.reflect.Method;
import java.lang.reflect.Modifier;
import java.nio.file.Files;
import java.nio.file.Path;
import java.util.Arrays;
import java.util.List;
import java.util.regex.Pattern;

/** The face of the document, and what can be seen of the rules of LANGUAGE.md. */
public final class LanguageTest {
    private static final List<String> FACE = Arrays.asList("feed", "end", "assemble", "fault", "begin", "input", "suppress", "run",
            "state", "register", "memory", "report", "output", "block", "twin");

    public static void main(String[] args) throws IOException {
        face();
        insides();
        words();
        Check.close();
    }

    private static void face() {
        int found = 0;
        Check.due("the class is final", Modifier.isFinal(ShadeBench.class.getModifiers()), true);
        for (Method method : ShadeBench.class.getDeclaredMethods()) {
            boolean named = FACE.contains(method.getName());
            Check.due(method.getName() + " is public", Modifier.isPublic(method.getModifiers()), named);
            Check.due(method.getName() + " is private", Modifier.isPrivate(method.getModifiers()), !named);
            found += named ? 1 : 0;
        }
        Check.due("all methods of the face", found, FACE.size());
        for (Field field : ShadeBench.class.getDeclaredFields()) {
            Check.due(field.getName() + " is private", Modifier.isPrivate(field.getModifiers()), !field.getName().equals("NONE"));
        }
        Constructor<?>[] constructors = ShadeBench.class.getDeclaredConstructors();
        Check.due("one constructor", constructors.length, 1);
        Check.due("it is public", Modifier.isPublic(constructors[0].getModifiers()), true);
    }

    private static void insides() {
        Class<?>[] inside = ShadeBench.class.getDeclaredClasses();
        Check.due("some twelve classes", inside.length <= 12, true);
        for (Class<?> one : inside) {
            Check.due(one.getName() + " is static", Modifier.isStatic(one.getModifiers()), true);
            Check.due(one.getName() + " is not public", Modifier.isPublic(one.getModifiers()), false);
            int fields = 0;
            for (Field field : one.getDeclaredFields()) {
                boolean isStatic = Modifier.isStatic(field.getModifiers());
                fields += isStatic ? 0 : 1;
                Check.due(field + " is no static state", isStatic && !Modifier.isFinal(field.getModifiers()), false);
            }
            Check.due(one.getName() + " has some twenty fields", fields <= 20, true);
            for (Method method : one.getDeclaredMethods()) {
                Check.due(method + " bears no name of the face", FACE.contains(method.getName()), false);
                Check.due(method + " takes seven at most", method.getParameterCount() <= 7, true);
            }
        }
    }

    private static void words() throws IOException {
        String source = Files.readString(Path.of("src/main/java/ShadeBench.java"));
        String code = source.replaceAll("(?s)/\\*.*?\\*/", "").replaceAll("//[^\n]*", "").replaceAll("\"[^\"\n]*\"", "\"\"");
        String banned = "throw|throws|try|catch|finally|synchronized|assert|import|package|instanceof|hashCode|toString|values"
                + "|protected|Object|System\\.out|->|::|\\w*Exact";
        Check.due("words that the rules leave out", Pattern.compile("\\b(" + banned + ")\\b|->|::").matcher(code).find(), false);
        Check.due("texts joined by +", Pattern.compile("\"\\s*\\+|\\+\\s*\"").matcher(code).find(), false);
        int longest = 0;
        int since = 0;
        for (String line : source.split("\n")) {
            since = line.matches(" {4,8}\\S.*[)] \\{") ? 0 : since + 1;
            longest = line.matches(" {4,8}\\}") && since < 200 ? Math.max(longest, since) : longest;
            since = line.matches(" {4,8}\\}") ? 200 : since;
        }
        Check.due("methods of some sixty lines", longest > 10 && longest <= 60, true);
    }
}
