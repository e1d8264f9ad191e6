import java.io.File;
import java.io.IOException;
import java.nio.charset.StandardCharsets;
import java.nio.file.Files;
import java.nio.file.Path;

/** The run of calls in README.md, done as it stands there, prints what stands there. */
public final class ReadmeTest {
    private static final Path CLASS = Path.of("src/main/java/ThrownVoices.java");

    private ReadmeTest() { }

    public static void main(String[] args) throws Exception {
        String readme = Files.readString(Path.of("README.md"));
        String program = block(readme, "A run of calls", "java");
        String commands = block(readme, "It is compiled and run by", "sh");
        String printed = block(readme, "and prints", "text");
        if (!program.isEmpty() && !commands.isEmpty()) Check.due("the run of calls", done(program, commands), printed);
        calls(readme);
        tests(readme);
        Check.end();
    }

    /** What stands in the first block of a kind behind some words. */
    private static String block(String readme, String behind, String kind) {
        String opening = "\n```" + kind + "\n";
        int from = readme.indexOf(opening, Math.max(0, readme.indexOf("\n" + behind)));
        int to = readme.indexOf("\n```\n", from + 1);
        boolean there = readme.contains("\n" + behind) && from >= 0 && to >= from + opening.length();
        Check.due("README.md has a block of " + kind + " behind '" + behind + "'", there, true);
        return there ? readme.substring(from + opening.length(), to + 1) : "";
    }

    private static String done(String program, String commands) throws IOException, InterruptedException {
        Path folder = Files.createTempDirectory("readme");
        Files.createDirectories(folder.resolve(CLASS).getParent());
        Files.copy(CLASS, folder.resolve(CLASS));
        Files.writeString(folder.resolve("Example.java"), program);
        Process shell = new ProcessBuilder("sh", "-e", "-c", commands).directory(folder.toFile())
                .redirectErrorStream(true).start();
        String output = new String(shell.getInputStream().readAllBytes(), StandardCharsets.UTF_8);
        Check.due("the commands end with", shell.waitFor(), 0);
        remove(folder.toFile());
        return output;
    }

    private static void remove(File file) {
        File[] inside = file.listFiles();
        if (inside != null) for (File one : inside) remove(one);
        Check.due(file + " is removed", file.delete(), true);
    }

    private static void calls(String readme) {
        for (java.lang.reflect.Method call : ThrownVoices.class.getDeclaredMethods()) {
            boolean open = java.lang.reflect.Modifier.isPublic(call.getModifiers());
            if (open) Check.due("README.md names " + call.getName(), readme.contains("`" + call.getName() + "`"), true);
        }
    }

    private static void tests(String readme) {
        File[] files = new File("src/test/java").listFiles((folder, name) -> name.endsWith("Test.java"));
        Check.due("there are tests", files != null && files.length > 0, true);
        for (File file : files == null ? new File[0] : files) {
            String name = file.getName().replace(".java", "");
            Check.due("README.md names " + name, readme.contains("- `" + name + "`: "), true);
        }
    }
}
