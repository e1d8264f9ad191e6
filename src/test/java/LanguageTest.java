import java.lang.reflect.Field;
import java.lang.reflect.Method;
import java.lang.reflect.Modifier;
import java.nio.file.Files;
import java.nio.file.Path;
import java.util.Set;
import java.util.TreeSet;
import java.util.regex.Matcher;
import java.util.regex.Pattern;

/** The rules of LANGUAGE.md that can be read off the text and the compiled class. */
public final class LanguageTest {
    private static final String FACE = "feed end town fault has letter voice person saying picks later ends busy match "
            + "choir worst tune needed odds hear pitches tells minutes chance strike heal train delay undo seed kept "
            + "image octet on status";

    private LanguageTest() { }

    public static void main(String[] args) throws Exception {
        String source = Files.readString(Path.of("src/main/java/ThrownVoices.java"));
        String code = source.replaceAll("(?s)/\\*.*?\\*/", "").replaceAll("//[^\n]*", "")
                .replaceAll("\"[^\"\n]*\"", "\"\"").replaceAll("'[^'\n]'", "'x'");
        words(code);
        face();
        classes(code);
        Check.end();
    }

    private static void no(String code, String pattern) {
        Matcher m = Pattern.compile(pattern).matcher(code);
        boolean found = m.find();
        Check.due("rule against " + pattern + (found ? ": " + m.group() : ""), found, false);
    }

    private static void words(String code) {
        for (String word : new String[] {"throw", "try", "catch", "synchronized", "assert", "throws", "super", "float",
            "double", "volatile", "transient", "native", "package", "finally", "var", "yield", "sealed"}) {
            no(code, "\\b" + word + "\\b");
        }
        no(code, "->");
        no(code, "::");
        no(code, "\"\"\\s*\\+|\\+\\s*\"\"");
        no(code, "Exact\\b");
        no(code, "\\b(Object|System\\.(?!arraycopy)|Thread|Random|hashCode|equals|toString)\\b");
        no(code, "\\b(new \\w+\\(.*\\)\\s*\\{)");
        Matcher m = Pattern.compile("\\bimport ([\\w.]+);").matcher(code);
        while (m.find()) Check.due("import " + m.group(1), m.group(1).equals("java.util.Arrays"), true);
        m = Pattern.compile("\\b(Math|Integer|Arrays|System)\\.(\\w+)").matcher(code);
        Set<String> known = Set.of("Math.min", "Math.max", "Math.abs", "Math.floorDiv", "Math.floorMod",
                "Integer.bitCount", "Arrays.fill", "System.arraycopy");
        while (m.find()) Check.due(m.group(), known.contains(m.group()), true);
    }

    private static void face() {
        Set<String> face = new TreeSet<>(Set.of(FACE.split(" ")));
        Set<String> open = new TreeSet<>();
        for (Method method : ThrownVoices.class.getDeclaredMethods()) {
            if (Modifier.isPublic(method.getModifiers())) open.add(method.getName());
            else if (!method.isSynthetic()) {
                Check.due(method.getName() + " is private", Modifier.isPrivate(method.getModifiers()), true);
                Check.due(method.getName() + " bears a public name", face.contains(method.getName()), false);
            }
        }
        Check.due("the face is the document's: " + open, open.equals(face), true);
        for (Field field : ThrownVoices.class.getDeclaredFields()) {
            boolean constant = field.getName().equals("NONE") || field.getName().equals("NOTHING");
            Check.due(field.getName() + " is private", Modifier.isPrivate(field.getModifiers()), !constant);
        }
        Check.due("one constructor", ThrownVoices.class.getConstructors().length, 1);
        for (Class<?> inside : ThrownVoices.class.getDeclaredClasses()) {
            Check.due(inside.getSimpleName() + " is static", Modifier.isStatic(inside.getModifiers()), true);
            for (Method method : inside.getDeclaredMethods()) {
                Check.due(inside.getSimpleName() + "." + method.getName(), face.contains(method.getName()), false);
                Check.due(method.getName() + " has few parameters", method.getParameterCount() <= 7, true);
            }
            fields(inside);
        }
        fields(ThrownVoices.class);
        Check.due("classes", ThrownVoices.class.getDeclaredClasses().length + 1 <= 12, true);
    }

    private static void fields(Class<?> one) {
        int count = 0;
        for (Field field : one.getDeclaredFields()) {
            boolean isStatic = Modifier.isStatic(field.getModifiers());
            if (isStatic) Check.due(field.getName() + " is final", Modifier.isFinal(field.getModifiers()), true);
            if (!isStatic) count++;
        }
        Check.due("fields of " + one.getSimpleName(), count <= 20, true);
    }

    /** A method's lines are counted from its brace to the brace that closes it. */
    private static void classes(String code) {
        int depth = 0;
        int line = 0;
        int[] start = new int[64];
        boolean[] isClass = new boolean[64];
        int from = 0;
        for (int i = 0; i < code.length(); i++) {
            char c = code.charAt(i);
            if (c == '\n') line++;
            if (c == '{') {
                start[depth] = line;
                isClass[depth] = code.substring(from, i).contains("class ");
                depth++;
            }
            if (c == '}') {
                depth--;
                boolean method = depth > 0 && isClass[depth - 1] && !isClass[depth];
                if (method) Check.due("a method of " + (line - start[depth]) + " lines", line - start[depth] <= 60, true);
            }
            if (c == '{' || c == '}' || c == ';') from = i + 1;
        }
        Check.due("braces", depth, 0);
    }
}
