import java.io.File;
import java.lang.reflect.Method;
import java.lang.reflect.Modifier;
import java.nio.file.Files;
import java.nio.file.Path;
import java.util.ArrayList;
import java.util.List;
import java.util.regex.Matcher;
import java.util.regex.Pattern;
import java.util.spi.ToolProvider;

/** What README.md shows must be so: its lines of Java are run, and each is held against the number behind it. */
public final class ReadmeTest {
    private static final Check C = new Check("ReadmeTest");
    private static final Pattern ANSWERED =
            Pattern.compile("(?:(?:int|long|boolean) (\\w+) = )?(.+?);\\s*// (NONE|true|false|-?\\d+)(?::.*)?");

    public static void main(String[] args) throws Exception {
        List<String> readme = Files.readAllLines(Path.of("README.md"));
        namesEachCall(String.join("\n", readme));
        namesEachTest(String.join("\n", readme));
        examples(readme);
        C.finish();
    }

    private static void namesEachCall(String readme) {
        for (Method method : FairHall.class.getDeclaredMethods()) {
            if (Modifier.isPublic(method.getModifiers())) {
                Pattern row = Pattern.compile("(?m)^\\| .*`" + method.getName() + "\\(.*\\) *`.*\\|");
                C.due("README.md has a row for " + method.getName(), row.matcher(readme).find(), true);
                Pattern example = Pattern.compile("(?m)^ *(\\w+ \\w+ = )?fair\\." + method.getName() + "\\(");
                C.due("README.md has an example of " + method.getName(), example.matcher(readme).find(), true);
            }
        }
        for (int status = 0; status <= 10; status++) {
            C.due("README.md says status " + status, readme.contains("\n| " + status + " | "), true);
        }
    }

    private static void namesEachTest(String readme) {
        File[] tests = new File("src/test/java").listFiles((folder, name) -> name.endsWith("Test.java"));
        for (File test : tests) {
            String name = test.getName().replace(".java", "");
            C.due("README.md has a row for " + name, readme.contains("\n| `" + name + "` | "), true);
        }
    }

    private static void examples(List<String> readme) throws Exception {
        List<String> body = new ArrayList<>();
        List<String> helpers = new ArrayList<>();
        List<String> block = null;
        for (String line : readme) {
            if (line.startsWith("```java")) {
                block = new ArrayList<>();
            } else if (line.startsWith("```") && block != null) {
                boolean helper = block.get(0).startsWith("static ");
                (helper ? helpers : body).addAll(block);
                block = null;
            } else if (block != null) {
                block.add(checked(line));
            }
        }
        long answers = body.stream().filter(line -> line.contains("C.due(")).count();
        C.due("answers are told in the examples", answers >= 40, true);
        C.due("the examples are as README.md says", runs(helpers, body), true);
    }

    /** A line that tells its answer, as a check of that answer. */
    private static String checked(String line) {
        Matcher told = ANSWERED.matcher(line);
        if (!told.matches()) {
            return line;
        }
        String name = told.group(1);
        String want = told.group(3).equals("NONE") ? "FairHall.NONE" : told.group(3);
        String got = name == null ? told.group(2) : name;
        String check = "C.due(\"" + told.group(2) + "\", " + got + ", " + want + ");";
        return name == null ? check : line + "\n" + check;
    }

    private static boolean runs(List<String> helpers, List<String> body) throws Exception {
        Path folder = Files.createTempDirectory("readme");
        Path file = folder.resolve("ReadmeExamples.java");
        Path compiled = folder.resolve("ReadmeExamples.class");
        String classes = System.getProperty("java.class.path");
        try {
            Files.writeString(file, "class ReadmeExamples {\n"
                    + "private static final Check C = new Check(\"README.md\");\n"
                    + String.join("\n", helpers) + "\n"
                    + "public static void main(String[] args) {\n"
                    + String.join("\n", body) + "\nC.finish();\n}\n}\n");
            ToolProvider javac = ToolProvider.findFirst("javac").orElseThrow();
            int code = javac.run(System.out, System.err, "-cp", classes, "-d", folder.toString(), file.toString());
            if (code != 0) {
                return false;
            }
            String java = Path.of(System.getProperty("java.home"), "bin", "java").toString();
            String both = classes + File.pathSeparator + folder;
            return new ProcessBuilder(java, "-cp", both, "ReadmeExamples").inheritIO().start().waitFor() == 0;
        } finally {
            Files.deleteIfExists(compiled);
            Files.deleteIfExists(file);
            Files.deleteIfExists(folder);
        }
    }
}
