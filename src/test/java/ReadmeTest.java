import java.nio.file.DirectoryStream;
import java.nio.file.Files;
import java.nio.file.Path;
import java.util.ArrayList;
import java.util.List;
import java.util.TreeSet;
import java.util.regex.Matcher;
import java.util.regex.Pattern;

/** What README.md tells of the class and of its tests is so. */
public final class ReadmeTest {
    private static final Check CHECK = new Check("ReadmeTest");
    private static final Path SOURCE = Path.of("src/main/java/HalfASize.java");
    private static final Path TESTS = Path.of("src/test/java");

    public static void main(String[] args) throws Exception {
        String readme = Files.readString(Path.of("README.md"));
        examples(readme);
        calls(readme);
        tests(readme);
        CHECK.end();
    }

    private static List<String> found(String pattern, String text) {
        List<String> all = new ArrayList<>();
        Matcher m = Pattern.compile(pattern).matcher(text);
        while (m.find()) {
            all.add(m.group(1));
        }
        return all;
    }

    private static void same(String what, TreeSet<String> due, List<String> got) {
        boolean is = due.size() == got.size() && due.equals(new TreeSet<>(got));
        CHECK.due(what + " due are " + due + ", told are " + got + ": whether", 1, is ? 1 : 0);
    }

    private static void examples(String readme) {
        List<String> blocks = found("(?s)```java\n(.*?)```", readme);
        CHECK.due("blocks of examples: whether", 1, blocks.size() >= 3 ? 1 : 0);
        for (String block : blocks) {
            HalfASize x = new HalfASize();
            String[] lines = block.split("\n");
            CHECK.due("\"" + lines[0] + "\" makes a new object: whether", 1, lines[0].equals("HalfASize x = new HalfASize();") ? 1 : 0);
            for (int i = 1; i < lines.length; i++) {
                example(x, lines[i]);
            }
        }
    }

    private static void example(HalfASize x, String line) {
        Matcher fed = Pattern.compile("x\\.feed\\(\"(.*)\"\\);").matcher(line);
        Matcher call = Pattern.compile("x\\.(\\w+\\(.*?\\)); *// (-?\\d+): .+").matcher(line);
        if (fed.matches()) {
            Check.type(x, fed.group(1));
        } else if (call.matches()) {
            CHECK.due(call.group(1), Long.parseLong(call.group(2)), Calls.answer(x, call.group(1)));
        } else {
            CHECK.due("\"" + line + "\" is an example: whether", 1, 0);
        }
    }

    /** Each call stands in the table of calls with the names of its arguments. */
    private static void calls(String readme) throws Exception {
        TreeSet<String> face = new TreeSet<>();
        for (String call : found("(?m)^    public (?:int|long) (\\w+\\(.*?\\)) \\{", Files.readString(SOURCE))) {
            face.add(call.replaceAll("\\bint ", ""));
        }
        CHECK.due("calls of the face", 28, face.size());
        same("calls", face, found("(?m)^\\| `(\\w+\\([^`]*\\))` \\|", readme));
    }

    private static void tests(String readme) throws Exception {
        TreeSet<String> names = new TreeSet<>();
        try (DirectoryStream<Path> files = Files.newDirectoryStream(TESTS, "*Test.java")) {
            files.forEach(file -> names.add(file.getFileName().toString().replace(".java", "")));
        }
        same("tests", names, found("(?m)^\\| (\\w+Test) \\|", readme));
    }
}
