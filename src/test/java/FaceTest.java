import java.lang.reflect.Constructor;
import java.lang.reflect.Field;
import java.lang.reflect.Method;
import java.lang.reflect.Modifier;
import java.util.TreeSet;

/** The public face is the document's, and nothing else of the class is seen from outside. */
final class FaceTest {
    private static final String[] FACE = {
        "public final class QueueBench",
        "public QueueBench()",
        "public static final int QueueBench.NONE",
        "public int QueueBench.feed(int,int,int,int,int) throws java.lang.IllegalStateException",
        "public int QueueBench.clear()",
        "public int QueueBench.compile()",
        "public int QueueBench.give(int) throws java.lang.IllegalStateException",
        "public void QueueBench.start() throws java.lang.IllegalStateException",
        "public int QueueBench.run(int) throws "
                + "java.lang.IllegalArgumentException,java.lang.IllegalStateException",
        "public int QueueBench.state(int) throws "
                + "java.lang.IllegalArgumentException,java.lang.IllegalStateException",
        "public int QueueBench.output(int) throws java.util.NoSuchElementException",
        "public int QueueBench.name(int) throws java.util.NoSuchElementException",
        "public int QueueBench.cell(int) throws java.util.NoSuchElementException",
        "public int QueueBench.terms(int) throws java.util.NoSuchElementException",
        "public int QueueBench.count(int) throws java.lang.IllegalArgumentException",
    };

    public static void main(String[] args) {
        TreeSet<String> seen = membersSeen();
        TreeSet<String> due = new TreeSet<>(java.util.Arrays.asList(FACE));
        Check check = new Check();
        check.sentence("The public face");
        for (String member : due) {
            check.due(member, seen.contains(member) ? 1 : 0, 1);
        }
        check.sentence("(LANGUAGE.md, rule 1) and no other public, protected or package-visible member");
        for (String member : seen) {
            check.due("not in the face: " + member, due.contains(member) ? 0 : 1, 0);
        }
        check.sentence("public static final int NONE = -1");
        check.due("NONE", QueueBench.NONE, -1);
        check.end("FaceTest");
    }

    private static TreeSet<String> membersSeen() {
        TreeSet<String> seen = new TreeSet<>();
        seen.add(QueueBench.class.toGenericString());
        for (Constructor<?> each : QueueBench.class.getDeclaredConstructors()) {
            addIfSeen(seen, each.getModifiers(), each.toString());
        }
        for (Method each : QueueBench.class.getDeclaredMethods()) {
            addIfSeen(seen, each.getModifiers(), each.toString());
        }
        for (Field each : QueueBench.class.getDeclaredFields()) {
            addIfSeen(seen, each.getModifiers(), each.toString());
        }
        return seen;
    }

    private static void addIfSeen(TreeSet<String> seen, int modifiers, String member) {
        if (!Modifier.isPrivate(modifiers)) {
            seen.add(member);
        }
    }
}
