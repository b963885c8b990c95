import java.io.IOException;
import java.lang.reflect.Method;
import java.lang.reflect.Modifier;
import java.nio.file.Files;
import java.nio.file.Path;
import java.util.HashMap;
import java.util.HashSet;
import java.util.Map;
import java.util.Set;
import java.util.regex.Matcher;
import java.util.regex.Pattern;

/** README.md's calls are made one behind the other, and answer what stands behind each. */
public final class ReadmeTest {
    private static final Pattern CALL = Pattern.compile("x\\.(\\w+)\\(([^)]*)\\); *// (-?\\d+|true|false)(:.*| \\.\\.)?");
    private static final String NEW_ONE = "LastName x = new LastName();";

    private final Check c = new Check();
    private final Map<String, Method> face = new HashMap<>();
    private final Set<String> told = new HashSet<>();
    private LastName x = null;

    public static void main(String[] args) throws IOException, ReflectiveOperationException {
        Path root = Path.of(args.length > 0 ? args[0] : ".");
        ReadmeTest t = new ReadmeTest();
        t.collectFace();
        t.readAll(Files.readString(root.resolve("README.md")));
        for (String name : t.face.keySet()) {
            t.c.due(name + " is told", t.told.contains(name), true);
        }
        t.c.close("ReadmeTest");
    }

    private void collectFace() {
        for (Method m : LastName.class.getDeclaredMethods()) {
            if (Modifier.isPublic(m.getModifiers())) {
                face.put(m.getName(), m);
            }
        }
    }

    private void readAll(String text) throws ReflectiveOperationException {
        boolean inside = false;
        for (String line : text.split("\n")) {
            if (line.startsWith("```")) {
                inside = line.equals("```java");
            } else if (inside && line.startsWith(NEW_ONE)) {
                x = new LastName();
            } else if (inside && !line.isEmpty()) {
                make(line);
            } else if (line.startsWith("    take ")) {
                c.due("a text: " + line.trim(), Check.read(new LastName(), line.trim()), 0);
            }
        }
    }

    private void make(String line) throws ReflectiveOperationException {
        Matcher m = CALL.matcher(line);
        boolean isCall = m.matches() && face.containsKey(m.group(1));
        c.due("a call and its answer: " + line, isCall, true);
        if (isCall) {
            told.add(m.group(1));
            Object answer = face.get(m.group(1)).invoke(x, arguments(m.group(2)));
            c.due(line + " (" + answer + ")", answer.toString().equals(m.group(3)), true);
        }
    }

    private static Object[] arguments(String list) {
        String[] all = list.isEmpty() ? new String[0] : list.split(", ");
        Object[] values = new Object[all.length];
        for (int i = 0; i < all.length; i++) {
            boolean flag = all[i].equals("true") || all[i].equals("false");
            values[i] = flag ? (Object) all[i].equals("true") : (Object) Long.decode(all[i]).intValue();
        }
        return values;
    }
}
