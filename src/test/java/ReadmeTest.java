import java.io.IOException;
import java.lang.reflect.Method;
import java.nio.file.Files;
import java.nio.file.Path;
import java.util.ArrayList;
import java.util.List;
import java.util.regex.Matcher;
import java.util.regex.Pattern;

/** What README.md says of the class: its examples, calls and errors. It runs in the project's root. */
public final class ReadmeTest {
    private static final Pattern BLOCK = Pattern.compile("(?s)```java\n(.*?)```");
    private static final Pattern EXAMPLE = Pattern.compile("grain\\.(\\w+)\\((.*)\\);\\s+// (-?\\w+): .+");
    private static final Pattern TYPED =
            Pattern.compile("for \\(char each : \"(.*)\"\\.toCharArray\\(\\)\\) grain\\.type\\(each\\);");
    private static final Pattern CALL = Pattern.compile("\n    public int (\\w+)\\((.*?)\\) \\{");

    public static void main(String[] args) throws ReflectiveOperationException, IOException {
        String readme = Files.readString(Path.of("README.md"));
        int blocks = 0;
        Matcher block = BLOCK.matcher(readme);
        while (block.find()) {
            blocks++;
            runExample(block.group(1));
        }
        Check.due("examples", blocks, 3);
        namesCalls(readme, Files.readString(Path.of("src/main/java/GrainReceipts.java")));
        for (String error : new String[] {"INVALID_ARGUMENT", "NOT_POSSIBLE", "LIMIT_REACHED", "NOT_FOUND"}) {
            isIn(readme, "| `" + error + "` | " + answer(error) + " |");
        }
        for (String order : new String[] {"s", "l", "p", "c", "d", "t"}) {
            isIn(readme, "| `" + order + "` ");
        }
        namesTests(readme);
        Check.end();
    }

    private static void runExample(String block) throws ReflectiveOperationException {
        GrainReceipts grain = null;
        for (String line : block.split("\n")) {
            Matcher example = EXAMPLE.matcher(line);
            Matcher typed = TYPED.matcher(line);
            if (line.equals("GrainReceipts grain = new GrainReceipts();")) {
                grain = new GrainReceipts();
            } else if (typed.matches()) {
                Check.typeText(grain, typed.group(1));
            } else {
                boolean isExample = example.matches();
                Check.due("an example: " + line, isExample ? 1 : 0, 1);
                if (isExample) {
                    Check.due(line, made(grain, example.group(1), example.group(2)), answer(example.group(3)));
                }
            }
        }
    }

    private static int made(GrainReceipts grain, String name, String arguments) throws ReflectiveOperationException {
        List<Object> values = new ArrayList<>();
        for (String each : arguments.isEmpty() ? new String[0] : arguments.split(", ")) {
            values.add(each.startsWith("'") ? each.charAt(1) : Integer.parseInt(each));
        }
        Class<?>[] types = new Class<?>[values.size()];
        for (int i = 0; i < types.length; i++) {
            types[i] = int.class;
        }
        Method method = GrainReceipts.class.getMethod(name, types);
        return (Integer) method.invoke(grain, values.toArray());
    }

    private static int answer(String told) throws ReflectiveOperationException {
        boolean isNumber = told.matches("-?\\d+");
        return isNumber ? Integer.parseInt(told) : GrainReceipts.class.getField(told).getInt(null);
    }

    private static void namesCalls(String readme, String source) {
        Matcher call = CALL.matcher(source);
        int calls = 0;
        while (call.find()) {
            calls++;
            isIn(readme, "| `" + call.group(1) + "(" + call.group(2).replace("int ", "") + ")` |");
        }
        Check.due("calls", calls, Model.CALLS.length);
    }

    private static void namesTests(String readme) throws IOException {
        try (var files = Files.list(Path.of("src/test/java"))) {
            for (Path file : files.sorted().toList()) {
                String name = file.getFileName().toString().replace(".java", "");
                if (name.endsWith("Test")) {
                    isIn(readme, "`" + name + "`");
                }
            }
        }
        isIn(readme, "    .ci/run\n");
    }

    private static void isIn(String readme, String text) {
        Check.due("README.md has " + text.strip(), readme.contains(text) ? 1 : 0, 1);
    }
}
