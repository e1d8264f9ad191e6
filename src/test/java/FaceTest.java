import java.lang.reflect.Constructor;
import java.lang.reflect.Field;
import java.lang.reflect.Method;
import java.lang.reflect.Modifier;
import java.nio.file.Files;
import java.nio.file.Path;
import java.util.ArrayList;
import java.util.List;
import java.util.Set;
import java.util.TreeSet;
import java.util.regex.Matcher;
import java.util.regex.Pattern;

/** The class has what the document's 'The public face' tells, to the letter, and nothing beside it. */
public final class FaceTest {
    private FaceTest() { }

    public static void main(String[] args) throws Exception {
        String document = Files.readString(Path.of("../shared/DOC.md"));
        String source = Files.readString(Path.of("src/main/java/ThrownVoices.java"));
        List<String> face = face(document);
        Check.due("rows of the face", face.size() > 3, true);
        Set<String> told = new TreeSet<>();
        for (String row : face) {
            told.add(withoutNames(row));
            String declared = row.contains(" = ") ? row + ";" : row + " {";
            Check.due("the source says: " + row, source.contains("\n    " + declared) || row.contains("class"), true);
        }
        Check.due("the face", String.join("\n", open()), String.join("\n", told));
        groups(document, source);
        Check.end();
    }

    /** Each row of the document's code block, without what ends it. */
    private static List<String> face(String document) {
        int from = document.indexOf("```java\n", document.indexOf("## The public face"));
        int to = document.indexOf("```", from + 3);
        List<String> rows = new ArrayList<>();
        for (String line : document.substring(from + 8, to).split("\n")) {
            String row = line.strip().replaceAll("\\s*[;{}]$", "");
            if (!row.isEmpty()) rows.add(row);
        }
        return rows;
    }

    private static String withoutNames(String row) {
        return row.replaceAll("(int|long|boolean) \\w+(?=[,)])", "$1");
    }

    /** All of the class that is not private, told as the document tells it. */
    private static Set<String> open() throws IllegalAccessException {
        Set<String> rows = new TreeSet<>();
        Class<?> c = ThrownVoices.class;
        rows.add(Modifier.toString(c.getModifiers()) + " class " + c.getName());
        for (Constructor<?> one : c.getDeclaredConstructors()) {
            rows.add(Modifier.toString(one.getModifiers()) + " " + one.getName() + types(one.getParameterTypes()));
        }
        for (Field one : c.getDeclaredFields()) {
            if (Modifier.isPrivate(one.getModifiers())) continue;
            String end = one.getType() == long.class ? "L" : "";
            boolean constant = Modifier.isStatic(one.getModifiers());
            rows.add(Modifier.toString(one.getModifiers()) + " " + one.getType() + " " + one.getName()
                    + " = " + (constant ? one.get(null) + end : ""));
        }
        for (Method one : c.getDeclaredMethods()) {
            if (Modifier.isPrivate(one.getModifiers()) || one.isSynthetic()) continue;
            rows.add(Modifier.toString(one.getModifiers()) + " " + one.getReturnType() + " " + one.getName()
                    + types(one.getParameterTypes()));
        }
        Check.due("it extends", c.getSuperclass().getName(), "java.lang.Object");
        Check.due("interfaces", c.getInterfaces().length, 0);
        return rows;
    }

    private static String types(Class<?>[] types) {
        List<String> names = new ArrayList<>();
        for (Class<?> type : types) names.add(type.getName());
        return "(" + String.join(", ", names) + ")";
    }

    /** What the interface says ahead of some calls stands ahead of the first of them. */
    private static void groups(String document, String source) {
        Matcher m = Pattern.compile("Ahead of the calls `(\\w+)`.* the interface says: (----[^\n]*)\\.\n").matcher(document);
        int groups = 0;
        while (m.find()) {
            groups++;
            String ahead = "// " + m.group(2) + "\n\n    public \\w+ " + m.group(1) + "\\(";
            Check.due("the source says " + ahead, Pattern.compile(ahead).matcher(source).find(), true);
        }
        Check.due("groups of calls", groups, 5);
    }
}
