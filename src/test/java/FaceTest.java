import java.io.IOException;
import java.lang.reflect.Constructor;
import java.lang.reflect.Field;
import java.lang.reflect.Method;
import java.lang.reflect.Modifier;
import java.nio.file.Files;
import java.nio.file.Path;
import java.util.HashSet;
import java.util.Set;
import java.util.TreeSet;
import java.util.regex.Matcher;
import java.util.regex.Pattern;

/** The document's face, and what LANGUAGE.md rules out as far as it can be seen by looking. */
public final class FaceTest {
    private static final String[] WORDS_RULED_OUT = {"throw", "throws", "try", "catch", "synchronized", "assert", "native",
        "volatile", "transient", "double", "float", "protected", "Object", "System\\.out", "Exact", "hashCode", "toString"};
    private static final int MOST_PARAMETERS = 7;
    private static final int MOST_LINES = 60;
    private static final int MOST_FIELDS = 20;
    private static final int MOST_CLASSES = 12;

    private final Check c = new Check();
    private final Set<String> publicNames = new HashSet<>();

    public static void main(String[] args) throws IOException {
        Path root = Path.of(args.length > 0 ? args[0] : ".");
        FaceTest t = new FaceTest();
        t.face(Files.readString(root.resolve("../shared/DOC.md")));
        t.members();
        t.source(Files.readString(root.resolve("src/main/java/LastName.java")));
        t.c.close("FaceTest");
    }

    private void face(String doc) {
        String face = doc.substring(doc.indexOf("```java"), doc.indexOf("## Terms"));
        Set<String> told = new TreeSet<>();
        Matcher m = Pattern.compile("public ([^;{]*);").matcher(face);
        while (m.find()) {
            told.add(m.group(1).replaceAll("(\\w+) \\w+(?=[,)])", "$1").replaceAll(" = ", "=").trim());
        }
        Set<String> there = new TreeSet<>();
        for (Constructor<?> k : LastName.class.getConstructors()) {
            there.add("LastName" + parameters(k.getParameterTypes()));
        }
        for (Method method : LastName.class.getDeclaredMethods()) {
            if (Modifier.isPublic(method.getModifiers())) {
                publicNames.add(method.getName());
                there.add(method.getReturnType() + " " + method.getName() + parameters(method.getParameterTypes()));
            }
        }
        there.add("static final int NONE=" + LastName.NONE);
        there.add("static final int SPENT=" + LastName.SPENT);
        c.due("the face told " + told + " is " + there, told.equals(there), true);
        c.due("32 methods, a constructor, two constants", told.size(), 35);
        c.due("final", Modifier.isFinal(LastName.class.getModifiers()), true);
    }

    private static String parameters(Class<?>[] types) {
        StringBuilder b = new StringBuilder("(");
        for (Class<?> type : types) {
            b.append(b.length() > 1 ? ", " : "").append(type);
        }
        return b.append(")").toString();
    }

    private void members() {
        Class<?>[] inside = LastName.class.getDeclaredClasses();
        c.due("classes", inside.length + 1 <= MOST_CLASSES, true);
        look(LastName.class, true);
        for (Class<?> k : inside) {
            c.due(k + " is static", Modifier.isStatic(k.getModifiers()), true);
            c.due(k + " is not public", Modifier.isPublic(k.getModifiers()), false);
            look(k, false);
        }
    }

    private void look(Class<?> k, boolean isFace) {
        int fields = 0;
        for (Field f : k.getDeclaredFields()) {
            boolean constant = Modifier.isStatic(f.getModifiers());
            fields += constant ? 0 : 1;
            c.due(f + " is final if static", !constant || Modifier.isFinal(f.getModifiers()), true);
            boolean told = f.getName().equals("NONE") || f.getName().equals("SPENT");
            c.due(f + " is private", !isFace || told || Modifier.isPrivate(f.getModifiers()), true);
        }
        c.due(k + " has fields: " + fields, fields <= MOST_FIELDS, true);
        for (Method m : k.getDeclaredMethods()) {
            boolean open = isFace && Modifier.isPublic(m.getModifiers());
            c.due(m + " is private", !isFace || open || Modifier.isPrivate(m.getModifiers()), true);
            c.due(m + " has a name of its own", open || !publicNames.contains(m.getName()), true);
            c.due(m + " has few parameters", m.getParameterCount() <= MOST_PARAMETERS, true);
        }
    }

    private void source(String text) {
        String code = text.replaceAll("(?s)/\\*.*?\\*/", "").replaceAll("//[^\n]*", "").replaceAll("\"[^\"]*\"", "\"\"");
        for (String word : WORDS_RULED_OUT) {
            c.due("no " + word, Pattern.compile("\\b" + word + "\\b|" + word + "\\(").matcher(code).find(), false);
        }
        for (String sign : new String[] {"->", "::", "@"}) {
            c.due("no " + sign, code.contains(sign), false);
        }
        Matcher imports = Pattern.compile("import ([^;]+);").matcher(code);
        while (imports.find()) {
            c.due("import " + imports.group(1), imports.group(1).equals("java.util.Arrays"), true);
        }
        c.due("no package", Pattern.compile("(?m)^package ").matcher(code).find(), false);
        c.due("plain signs", text.chars().allMatch(sign -> sign == 10 || sign >= 32 && sign < 127), true);
        lengths(text);
    }

    /** Counts a method's lines by its indent: it begins and ends on the level of its class's members. */
    private void lengths(String text) {
        String[] lines = text.split("\n");
        for (String indent : new String[] {"    ", "        "}) {
            int begin = -1;
            for (int i = 0; i < lines.length; i++) {
                boolean member = lines[i].matches(indent + "[a-zA-Z].*\\) \\{");
                begin = member ? i : begin;
                if (begin >= 0 && lines[i].equals(indent + "}")) {
                    c.due(lines[begin].trim() + " has lines", i - begin < MOST_LINES, true);
                    begin = -1;
                }
            }
        }
    }
}
