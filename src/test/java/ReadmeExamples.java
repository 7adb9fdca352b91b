import java.io.IOException;
import java.nio.file.Files;
import java.nio.file.Path;
import java.util.ArrayList;
import java.util.List;
import java.util.regex.Matcher;
import java.util.regex.Pattern;

/**
 * Makes a test of the examples of README.md: ReadmeExamples README.md out/SomeName.java
 *
 * Each block of java becomes a method, and what the comment behind a line says becomes a check.
 */
public final class ReadmeExamples {
    private static final Pattern ANSWERS_BITS = Pattern.compile("(.*\\S);\\s+// answers the bits of (.+)");
    private static final Pattern ANSWERS = Pattern.compile("(.*\\S);\\s+// answers (.+)");
    private static final Pattern THROWS = Pattern.compile("(.*\\S);\\s+// throws (\\w+)");
    private static final Pattern IS = Pattern.compile("(.*\\S;)\\s+// (\\w+) is (.+)");

    public static void main(String[] args) throws IOException {
        if (args.length != 2) {
            System.out.println("two files are due: the page, and the test that is made of it");
            System.exit(1);
        }
        List<List<String>> blocks = blocksOf(Files.readAllLines(Path.of(args[0])));
        Path test = Path.of(args[1]);
        Files.write(test, testOf(blocks, test.getFileName().toString().replace(".java", "")));
    }

    private static List<List<String>> blocksOf(List<String> page) {
        List<List<String>> blocks = new ArrayList<>();
        boolean inside = false;
        for (String line : page) {
            if (line.equals("```java")) {
                blocks.add(new ArrayList<>());
                inside = true;
            } else if (line.startsWith("```")) {
                inside = false;
            } else if (inside) {
                blocks.get(blocks.size() - 1).add(line);
            }
        }
        return blocks;
    }

    private static List<String> testOf(List<List<String>> blocks, String name) {
        List<String> test = new ArrayList<>();
        test.add("public final class " + name + " {");
        test.add("    private static final Checks CHECKS = new Checks();");
        for (int i = 0; i < blocks.size(); i++) {
            test.add("    private static void block" + i + "() {");
            for (String line : blocks.get(i)) {
                test.add("        " + checked(line));
            }
            test.add("    }");
        }
        test.add("    public static void main(String[] args) {");
        for (int i = 0; i < blocks.size(); i++) {
            test.add("        block" + i + "();");
        }
        test.add("        CHECKS.end();");
        test.add("    }");
        test.add("}");
        return test;
    }

    private static String checked(String line) {
        Matcher bits = ANSWERS_BITS.matcher(line);
        if (bits.matches()) {
            return due(bits.group(1), "Checks.bits(" + bits.group(2) + ")");
        }
        Matcher answers = ANSWERS.matcher(line);
        if (answers.matches()) {
            return due(answers.group(1), answers.group(2));
        }
        Matcher thrown = THROWS.matcher(line);
        if (thrown.matches()) {
            String call = thrown.group(1);
            return "CHECKS.dueThrow(\"README.md: " + call + "\", " + thrown.group(2) + ".class, () -> " + call + ");";
        }
        Matcher is = IS.matcher(line);
        if (is.matches()) {
            String what = is.group(2) + " is " + is.group(3);
            return is.group(1) + " CHECKS.dueTrue(\"README.md: " + what + "\", Double.compare(" + is.group(2) + ", "
                    + is.group(3) + ") == 0);";
        }
        // A comment that is none of these would be a word of the page that nothing tests.
        return line.contains("//") ? "CHECKS.dueTrue(\"README.md: a comment that can be tested\", false);" : line;
    }

    private static String due(String call, String answer) {
        return "CHECKS.due(\"README.md: " + call + "\", " + answer + ", () -> " + call + ");";
    }
}
