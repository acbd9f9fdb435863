import java.io.IOException;
import java.nio.file.Files;
import java.nio.file.Path;
import java.util.ArrayList;
import java.util.List;
import java.util.regex.Matcher;
import java.util.regex.Pattern;

/** The example of README.md, compiled and run as it says there, prints what its comments say. */
public final class ReadmeTest {
    private static final String PRINTING = "System.out.println(";

    private ReadmeTest() {
    }

    public static void main(String[] args) throws IOException, InterruptedException {
        Check.part("README.md");
        String readme = Files.readString(Path.of(args[2]));
        Path folder = Path.of(args[3]);
        String example = block(readme, "java", "class Example ");
        layOut(folder, Path.of(args[0]), example);
        List<String> printed = new ArrayList<>();
        for (String command : block(readme, "sh", "javac ").split("\n")) {
            printed.addAll(run(folder, command));
        }
        compare(answers(example), printed);
        Check.due("it says how to run the tests", true,
            block(readme, "sh", ".ci/run").strip().equals("bash .ci/run"));
        Check.end();
    }

    /** The one fenced block of this kind that holds this text. */
    private static String block(String readme, String kind, String text) {
        Matcher fences = Pattern.compile("(?s)```(\\w*)\n(.*?)\n```").matcher(readme);
        String found = "";
        int count = 0;
        while (fences.find()) {
            if (fences.group(1).equals(kind) && fences.group(2).contains(text)) {
                found = fences.group(2);
                count++;
            }
        }
        Check.due("blocks of " + kind + " with " + text, 1, count);
        return found;
    }

    /** A checkout's folders, with nothing in them but what the commands are to compile. */
    private static void layOut(Path folder, Path program, String example) throws IOException {
        Path at = folder.resolve("src/main/java");
        Files.createDirectories(at);
        Files.copy(program, at.resolve("TenantPlacement.java"));
        Files.writeString(folder.resolve("Example.java"), example);
    }

    private static List<String> run(Path folder, String command)
            throws IOException, InterruptedException {
        Process process = new ProcessBuilder("sh", "-c", command)
            .directory(folder.toFile())
            .redirectError(ProcessBuilder.Redirect.INHERIT)
            .start();
        String printed = new String(process.getInputStream().readAllBytes());
        Check.due("exit code of " + command, 0, process.waitFor());
        return printed.lines().toList();
    }

    /** What the comments behind the printing lines say, up to the colon. */
    private static List<String> answers(String example) {
        List<String> answers = new ArrayList<>();
        for (String line : example.split("\n")) {
            String[] parts = line.split("// ");
            if (line.contains(PRINTING)) {
                answers.add(parts.length == 2 ? parts[1].split(": ")[0] : "no answer");
            }
        }
        Check.due("there are answers", true, !answers.isEmpty());
        return answers;
    }

    private static void compare(List<String> answers, List<String> printed) {
        Check.due("lines printed", answers.size(), printed.size());
        for (int i = 0; i < Math.min(answers.size(), printed.size()); i++) {
            Check.due("line " + (i + 1), answers.get(i), printed.get(i));
        }
    }
}
