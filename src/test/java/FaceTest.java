import java.io.IOException;
import java.lang.reflect.Constructor;
import java.lang.reflect.Field;
import java.lang.reflect.Method;
import java.lang.reflect.Modifier;
import java.nio.file.Files;
import java.nio.file.Path;
import java.util.Arrays;
import java.util.TreeSet;

/** The class has the document's face, and nothing else that can be seen from outside. */
public final class FaceTest {
    private static final String[] METHODS = {
        "store 3", "split 2", "join 2", "hand 2", "deliver 1", "pledge 3", "repay 2", "price 2", "call 1", "pass 1",
        "lose 2", "regrade 2", "set 2", "receiptOf 2", "receipt 1", "binOf 2", "gradeOf 2", "ownerOf 2",
        "lenderOf 2", "fallTo 1", "count 1", "undo 0", "type 1", "clearText 0", "fault 1", "play 0"};

    /** "Ahead of the calls .. the interface says" */
    private static final String[] HEADINGS = {"grain, receipts: store", "pledges: pledge", "bins: lose",
        "what there is: receiptOf", "what would be: fallTo", "texts: type"};

    public static void main(String[] args) throws IOException {
        Check.due("INVALID_ARGUMENT", GrainReceipts.INVALID_ARGUMENT, -2000000001);
        Check.due("NOT_POSSIBLE", GrainReceipts.NOT_POSSIBLE, -2000000002);
        Check.due("LIMIT_REACHED", GrainReceipts.LIMIT_REACHED, -2000000003);
        Check.due("NOT_FOUND", GrainReceipts.NOT_FOUND, -2000000004);
        TreeSet<String> found = new TreeSet<>();
        TreeSet<String> hidden = new TreeSet<>();
        for (Method method : GrainReceipts.class.getDeclaredMethods()) {
            if (Modifier.isPrivate(method.getModifiers()) || method.isSynthetic()) {
                hidden.add(method.getName());
            } else {
                found.add(method.getName() + " " + method.getParameterCount());
                Check.due(method + " is public", Modifier.isPublic(method.getModifiers()) ? 1 : 0, 1);
                Check.due(method + " answers an int", method.getReturnType() == int.class ? 1 : 0, 1);
                Check.due(method + " takes ints", Arrays.stream(method.getParameterTypes())
                        .allMatch(type -> type == int.class) ? 1 : 0, 1);
            }
        }
        Check.due("methods " + found, found.equals(new TreeSet<>(Arrays.asList(METHODS))) ? 1 : 0, 1);
        for (String name : Model.CALLS) {
            Check.due("private " + name, hidden.contains(name) ? 1 : 0, 0);
        }
        int constants = 0;
        for (Field field : GrainReceipts.class.getDeclaredFields()) {
            constants += Modifier.isPrivate(field.getModifiers()) ? 0 : 1;
            boolean isPlain = Modifier.isPublic(field.getModifiers()) && Modifier.isStatic(field.getModifiers())
                    && Modifier.isFinal(field.getModifiers()) && field.getType() == int.class;
            Check.due(field + " is seen as a constant", isPlain || Modifier.isPrivate(field.getModifiers()) ? 1 : 0, 1);
        }
        Check.due("fields that are seen", constants, 4);
        Constructor<?>[] constructors = GrainReceipts.class.getDeclaredConstructors();
        Check.due("constructors", constructors.length, 1);
        Check.due("arguments of it", constructors[0].getParameterCount(), 0);
        Check.due("it is public", Modifier.isPublic(constructors[0].getModifiers()) ? 1 : 0, 1);
        Check.due("final", Modifier.isFinal(GrainReceipts.class.getModifiers()) ? 1 : 0, 1);
        Check.due("of no other kind", GrainReceipts.class.getSuperclass() == Object.class
                && GrainReceipts.class.getInterfaces().length == 0 ? 1 : 0, 1);
        calls();
        Check.end();
    }

    /** The calls stand in the order of the document, and its headings ahead of them. */
    private static void calls() throws IOException {
        String source = Files.readString(Path.of("src/main/java/GrainReceipts.java"));
        int last = 0;
        for (String method : METHODS) {
            int place = source.indexOf("\n    public int " + method.split(" ")[0] + "(");
            Check.due(method + " stands behind the one ahead of it", place > last ? 1 : 0, 1);
            last = place;
        }
        for (String heading : HEADINGS) {
            String[] parts = heading.split(": ");
            String both = "\n    // ---- " + parts[0] + "\n\n    public int " + parts[1] + "(";
            Check.due("heading " + parts[0], source.contains(both) ? 1 : 0, 1);
        }
    }
}
