import java.lang.reflect.Method;
import java.lang.reflect.Modifier;
import java.nio.file.Files;
import java.nio.file.Path;
import java.util.TreeSet;
import java.util.regex.Matcher;
import java.util.regex.Pattern;

/** README.md: its examples are called as they stand there, each call of the face is told, and each refusal. */
public final class ReadmeTest {
    private static final Due due = new Due("ReadmeTest");
    private static final Pattern CALL = Pattern.compile("x\\.(\\w+)\\((.*?)\\); +// (-?\\d+)(: .*)?");
    private static final String[] FINDINGS = {"NULL", "PLACE", "KIND", "SIZE", "STORE", "ASTRAY", "LOCKED", "BROKEN", "WOKEN", "DARK",
        "EMPTY"};

    public static void main(String[] args) throws Exception {
        String page = Files.readString(Path.of("README.md"));
        TreeSet<String> called = examples(page);
        for (Method m : DoorsBehind.class.getDeclaredMethods()) {
            if (!Modifier.isPublic(m.getModifiers())) continue;
            due.is(m.getName() + " is told in a row of its own", rows(page, "\\| `" + m.getName() + "\\([^)]*\\)` \\|.*"), 1);
            due.is(m.getName() + " is in an example", called.contains(m.getName()) ? 1 : 0, 1);
        }
        for (int k = 1; k <= FINDINGS.length; k++) told(page, "| " + k + " | " + (-1000010 - k) + " | " + FINDINGS[k - 1] + " |");
        told(page, "| " + DoorsBehind.NONE + " | NONE |");
        told(page, "| " + DoorsBehind.BAD + " | BAD |");
        told(page, "| " + DoorsBehind.STATE + " | STATE |");
        told(page, "| " + DoorsBehind.FULL + " | FULL |");
        told(page, ".ci/run");
        due.end();
    }

    private static void told(String page, String what) {
        due.is(what + " is told", page.contains(what) ? 1 : 0, 1);
    }

    private static int rows(String page, String form) {
        int many = 0;
        for (String line : page.split("\n")) {
            if (line.matches(form)) many++;
        }
        return many;
    }

    /** The names of all that was called; an example goes on with the object of the one before. */
    private static TreeSet<String> examples(String page) throws Exception {
        TreeSet<String> called = new TreeSet<>();
        Matcher block = Pattern.compile("(?s)```java\n(.*?)```").matcher(page);
        DoorsBehind x = null;
        String text = "";
        while (block.find()) {
            for (String line : block.group(1).split("\n")) {
                Matcher call = CALL.matcher(line);
                if (line.equals("DoorsBehind x = new DoorsBehind();")) x = new DoorsBehind();
                else if (line.startsWith("String text = \"")) text = line.substring(15, line.indexOf("\";"));
                else if (line.equals("for (int k = 0; k < text.length(); k++) x.feed(text.charAt(k));")) Due.tell(x, text);
                else if (call.matches()) {
                    called.add(call.group(1));
                    due.is("README.md: " + line, answer(x, call.group(1), call.group(2)), Long.parseLong(call.group(3)));
                } else due.is("README.md has a line that is not of an example's form: " + line, 0, 1);
            }
        }
        return called;
    }

    private static long answer(DoorsBehind x, String name, String given) throws Exception {
        String[] words = given.isEmpty() ? new String[0] : given.split(", ");
        Object[] numbers = new Object[words.length];
        for (int k = 0; k < words.length; k++) numbers[k] = words[k].charAt(0) == '\'' ? (int) words[k].charAt(1) : Integer.parseInt(words[k]);
        for (Method m : DoorsBehind.class.getMethods()) {
            if (m.getName().equals(name) && m.getParameterCount() == words.length) return ((Number) m.invoke(x, numbers)).longValue();
        }
        throw new IllegalArgumentException(name + " with " + given);
    }
}
