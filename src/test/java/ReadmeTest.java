import java.io.ByteArrayOutputStream;
import java.io.IOException;
import java.io.PrintStream;
import java.nio.charset.StandardCharsets;
import java.nio.file.Files;
import java.nio.file.Path;
import java.util.regex.Matcher;
import java.util.regex.Pattern;

/** README.md shows a program: it is HowToUse as it stands here, and prints what README.md says. */
public final class ReadmeTest {
    private ReadmeTest() {
    }

    public static void main(String[] args) throws IOException {
        String readme = Files.readString(Path.of("README.md"));
        Checks.dueText("the program of README.md", shown(readme, "java"),
                Files.readString(Path.of("src/test/java/HowToUse.java")));
        Checks.dueText("what README.md says that it prints", shown(readme, "text"), printed());
        Checks.due("the command that runs all tests stands in README.md", readme.contains("    .ci/run\n"), true);
        for (String file : new String[] {".ci/run", "src/main/java/RuleByLot.java"}) {
            Checks.due(file + " is there, as README.md says", Files.exists(Path.of(file)), true);
        }
        everyTestIsNamed(readme);
        Checks.finish("ReadmeTest");
    }

    private static String shown(String readme, String kind) {
        Matcher m = Pattern.compile("(?s)```" + kind + "\n(.*?)```").matcher(readme);
        return m.find() ? m.group(1) : "";
    }

    private static String printed() {
        PrintStream before = System.out;
        ByteArrayOutputStream taken = new ByteArrayOutputStream();
        System.setOut(new PrintStream(taken, true, StandardCharsets.ISO_8859_1));
        HowToUse.main(new String[0]);
        System.setOut(before);
        return taken.toString(StandardCharsets.ISO_8859_1).replace(System.lineSeparator(), "\n");
    }

    private static void everyTestIsNamed(String readme) throws IOException {
        try (var files = Files.newDirectoryStream(Path.of("src/test/java"), "*Test.java")) {
            for (Path file : files) {
                String name = file.getFileName().toString().replace(".java", "");
                Checks.due(name + " is told of in README.md", readme.contains("`" + name + "`"), true);
            }
        }
    }
}
