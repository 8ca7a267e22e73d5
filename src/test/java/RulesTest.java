import java.lang.reflect.Constructor;
import java.lang.reflect.Field;
import java.lang.reflect.Method;
import java.lang.reflect.Modifier;
import java.nio.file.DirectoryStream;
import java.nio.file.Files;
import java.nio.file.Path;
import java.util.ArrayList;
import java.util.Arrays;
import java.util.List;
import java.util.TreeSet;
import java.util.regex.Matcher;
import java.util.regex.Pattern;

/** The public face, and those rules of LANGUAGE.md that can be seen in the class and in its source. */
public final class RulesTest {
    private static final String FACE = "as(int,int)int ask(int,int)int bring(int,int)int byTurns(int)int"
        + " copy(int,int,int,int,int)int count(int)int door(int,int)int drawn(int,int,int)int drop(int)int"
        + " errand(int,int,int)int fault()int feed(int)int house()int image(int)int kind(int)int ledger(int)int"
        + " needs(int,int,int,int)int oil(int)int restore(int)int room(int,int)int row(int,int,int)int"
        + " rule(int,int)int set(int,int,int)int sets(int,int)int share(int,int)int status()int"
        + " sticks(int,int,int,int,int)long trace(int)int undo()int way(int,int)int"
        + " who(int,int,int,int,int,int)int would(int,int,int,int)int";
    private static final String[] FORBIDDEN = {"throw", "throws", "try", "catch", "finally", "synchronized", "assert", "import",
        "package", "volatile", "transient", "native", "Exact", "hashCode", "toString", "Override", "System\\.(?!arraycopy)",
        "Thread", "Random", "Object", "var", "yield", "protected", "double", "float"};
    private static int wrong;

    public static void main(String[] args) throws Exception {
        face();
        members(DoorsBehind.class);
        source(Files.readString(Path.of("src/main/java/DoorsBehind.java")));
        promises();
        System.out.println("RulesTest: " + wrong + " things are wrong");
        if (wrong != 0) System.exit(1);
    }

    private static void hold(boolean holds, String what) {
        if (!holds) {
            wrong++;
            System.out.println("RulesTest: " + what);
        }
    }

    private static void face() {
        TreeSet<String> methods = new TreeSet<>();
        TreeSet<String> open = new TreeSet<>();
        List<String> hidden = new ArrayList<>();
        for (Method m : DoorsBehind.class.getDeclaredMethods()) {
            String types = Arrays.toString(m.getParameterTypes()).replaceAll("[\\[\\] ]", "");
            if (Modifier.isPrivate(m.getModifiers())) {
                hidden.add(m.getName());
                continue;
            }
            open.add(m.getName());
            methods.add(m.getName() + "(" + types + ")" + m.getReturnType());
            hold(Modifier.isPublic(m.getModifiers()), m + " is not public");
        }
        hold(methods.equals(new TreeSet<>(Arrays.asList(FACE.split(" ")))), "the face is " + methods);
        for (String name : hidden) hold(!open.contains(name), "a private method bears the name " + name);
        hold(Modifier.isFinal(DoorsBehind.class.getModifiers()), "the class is not final");
        Constructor<?>[] makers = DoorsBehind.class.getDeclaredConstructors();
        hold(makers.length == 1 && makers[0].getParameterCount() == 0 && Modifier.isPublic(makers[0].getModifiers()), "constructors");
        TreeSet<String> constants = new TreeSet<>();
        for (Field f : DoorsBehind.class.getDeclaredFields()) {
            if (!Modifier.isPrivate(f.getModifiers())) constants.add(f.getName());
        }
        hold(constants.equals(new TreeSet<>(List.of("BAD", "FULL", "NONE", "STATE"))), "open fields: " + constants);
    }

    private static void members(Class<?> outer) {
        Class<?>[] inside = outer.getDeclaredClasses();
        hold(inside.length + 1 <= 12, "classes: " + (inside.length + 1));
        List<Class<?>> all = new ArrayList<>(List.of(inside));
        all.add(outer);
        for (Class<?> c : all) {
            int fields = 0;
            for (Field f : c.getDeclaredFields()) {
                boolean isStatic = Modifier.isStatic(f.getModifiers());
                if (!isStatic) fields++;
                hold(!isStatic || Modifier.isFinal(f.getModifiers()), "a static field that is not final: " + f);
            }
            hold(fields <= 20, c + " has " + fields + " fields");
            for (Method m : c.getDeclaredMethods()) hold(m.getParameterCount() <= 7, m + " takes too many");
            hold(c == outer || Modifier.isStatic(c.getModifiers()), c + " is not static");
        }
    }

    /** Each promise has a test of its edges, and each such test is run. */
    private static void promises() throws Exception {
        TreeSet<Integer> tested = new TreeSet<>();
        try (DirectoryStream<Path> files = Files.newDirectoryStream(Path.of("src/test/java"), "Edges*Test.java")) {
            for (Path file : files) {
                String text = Files.readString(file);
                Matcher m = Pattern.compile("void (promise(\\d+)\\w+)\\(\\) \\{").matcher(text);
                while (m.find()) {
                    tested.add(Integer.parseInt(m.group(2)));
                    hold(text.contains("        " + m.group(1) + "();\n"), m.group(1) + " is not run");
                }
            }
        }
        for (int k = 1; k <= 33; k++) hold(tested.contains(k), "promise " + k + " has no test of its edges");
    }

    private static void source(String text) {
        String code = text.replaceAll("(?s)/\\*.*?\\*/", "").replaceAll("//[^\n]*", "");
        for (String word : FORBIDDEN) {
            Matcher m = Pattern.compile("\\b" + word + (word.endsWith(")") ? "" : "\\b")).matcher(code);
            hold(!m.find(), "the source has " + word);
        }
        hold(!code.contains("->") && !code.contains("::"), "the source has a lambda or a method reference");
        hold(!code.contains("\""), "the source has a text");
        for (int k = 0; k < text.length(); k++) hold(text.charAt(k) < 128, "a sign above 127");
        int begin = 0, line = 0;
        String name = "";
        for (String l : text.split("\n")) {
            line++;
            if (l.matches(" {4}( {4})?[a-zA-Z].*\\) \\{") && !l.contains("class ")) {
                begin = line;
                name = l.trim();
            }
            if (l.matches(" {4}( {4})?\\}") && begin > 0) {
                hold(line - begin <= 60, name + " has " + (line - begin) + " lines");
                begin = 0;
            }
        }
    }
}
