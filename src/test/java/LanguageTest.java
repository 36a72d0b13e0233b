import java.io.IOException;
import java.lang.reflect.Field;
import java.lang.reflect.Method;
import java.lang.reflect.Modifier;
import java.nio.file.Files;
import java.nio.file.Path;
import java.util.regex.Matcher;
import java.util.regex.Pattern;

/** The rules of ../shared/LANGUAGE.md that a look at the words of the class can tell. It runs in the project's root. */
public final class LanguageTest {
    private static final String[] BANNED = {
        "\\bimport\\b", "\\bpackage\\b", "->", "::", "\\btry\\b", "\\bcatch\\b", "\\bfinally\\b", "\\bthrow\\b",
        "\\bsynchronized\\b", "\\bassert\\b", "\\binstanceof\\b", "Exact\\b", "\\bFloat\\b", "\\bDouble\\b",
        "\\bthis\\b", "\\bString\\b", "\\bstatic\\s*\\{", "\\bprotected\\b", "[^\\x00-\\x7f]"};

    private static final Pattern METHOD = Pattern.compile(
            "(?sm)^( {4}| {8})(?=\\w)(?!(?:for|if|while|switch)\\b)[\\w ]*\\w\\([^;=]*?\\) \\{\n(.*?)^\\1\\}$");

    public static void main(String[] args) throws IOException {
        String source = Files.readString(Path.of("src/main/java/GrainReceipts.java"));
        String code = source.replaceAll("(?s)/\\*.*?\\*/", "").replaceAll("//[^\n]*", "");
        for (String banned : BANNED) {
            Check.due("uses of " + banned, Pattern.compile(banned).matcher(code).results().count(), 0);
        }
        Matcher made = Pattern.compile("\\bnew\\b").matcher(code);
        int objects = 0;
        while (made.find()) {
            objects++;
        }
        // Fields and constructors make these; a call that makes one would add to them.
        Check.due("places that make an object", objects, 13);
        Check.due("classes", Pattern.compile("\\bclass\\b").matcher(code).results().count(), 5);
        library(code);
        lengths(code);
        sizes(GrainReceipts.class);
        for (Class<?> inner : GrainReceipts.class.getDeclaredClasses()) {
            Check.due(inner + " is static", Modifier.isStatic(inner.getModifiers()) ? 1 : 0, 1);
            Check.due(inner + " is public", Modifier.isPublic(inner.getModifiers()) ? 1 : 0, 0);
            sizes(inner);
        }
        Check.end();
    }

    /** Rule 4: "The library: only what stands here." */
    private static void library(String code) {
        Matcher used = Pattern.compile("\\b([A-Z][a-z]\\w*)\\.(\\w+)").matcher(code);
        while (used.find()) {
            String name = used.group();
            boolean isListed = name.equals("Math.max") || name.equals("Math.min") || name.equals("System.arraycopy");
            Check.due(name + " is listed", isListed ? 1 : 0, 1);
        }
    }

    /** Rule 11: "Methods stay short (some sixty lines)" */
    private static void lengths(String code) {
        Matcher method = METHOD.matcher(code);
        int methods = 0;
        while (method.find()) {
            methods++;
            long lines = method.group(2).lines().count();
            Check.due("lines of " + method.group().lines().findFirst().get().strip(), lines > 60 ? lines : 0, 0);
        }
        Check.due("many methods are found", methods > 90 ? 1 : 0, 1);
    }

    private static void sizes(Class<?> type) {
        int fields = 0;
        for (Field field : type.getDeclaredFields()) {
            boolean isStatic = Modifier.isStatic(field.getModifiers());
            fields += isStatic ? 0 : 1;
            Check.due(field + " stays", isStatic && !Modifier.isFinal(field.getModifiers()) ? 1 : 0, 0);
        }
        Check.due("some twenty fields of " + type, fields > 20 ? fields : 0, 0);
        for (Method method : type.getDeclaredMethods()) {
            int parameters = method.getParameterCount();
            Check.due("at most seven parameters of " + method, parameters > 7 ? parameters : 0, 0);
        }
    }
}
