import java.io.ByteArrayOutputStream;
import java.io.IOException;
import java.io.PrintStream;
import java.lang.reflect.Method;
import java.lang.reflect.Modifier;
import java.nio.charset.StandardCharsets;
import java.nio.file.DirectoryStream;
import java.nio.file.Files;
import java.nio.file.Path;
import java.util.ArrayList;
import java.util.Collections;
import java.util.List;

/** README.md: its example is the one that runs here and prints what is told; it names every call and every test. */
public final class ReadmeTest {
    private static final Due DUE = new Due("ReadmeTest");
    private static final Path TESTS = Path.of("src/test/java");

    public static void main(String[] args) throws IOException {
        List<String> page = Files.readAllLines(Path.of("README.md"), StandardCharsets.UTF_8);
        codeIsThatOfTheExample(page);
        printsWhatIsTold(page);
        namesEveryCall(String.join("\n", page));
        namesEveryTest(String.join("\n", page));
        DUE.end();
    }

    private static List<List<String>> blocks(List<String> page, String kind) {
        List<List<String>> blocks = new ArrayList<>();
        List<String> block = null;
        for (String line : page) {
            if (block == null && line.equals("```" + kind)) {
                block = new ArrayList<>();
            } else if (block != null && line.equals("```")) {
                blocks.add(block);
                block = null;
            } else if (block != null) {
                block.add(line.strip());
            }
        }
        return blocks;
    }

    private static void codeIsThatOfTheExample(List<String> page) throws IOException {
        List<String> example = new ArrayList<>();
        for (String line : Files.readAllLines(TESTS.resolve("ReadmeExample.java"), StandardCharsets.UTF_8)) {
            example.add(line.strip());
        }
        List<List<String>> blocks = blocks(page, "java");
        DUE.is("blocks of code", blocks.size(), 2);
        for (List<String> block : blocks) {
            DUE.is("the example has " + block, Collections.indexOfSubList(example, block) >= 0, true);
        }
    }

    private static void printsWhatIsTold(List<String> page) {
        List<List<String>> blocks = blocks(page, "text");
        DUE.is("blocks of what is printed", blocks.size(), 1);
        PrintStream out = System.out;
        ByteArrayOutputStream printed = new ByteArrayOutputStream();
        System.setOut(new PrintStream(printed, true, StandardCharsets.UTF_8));
        try {
            ReadmeExample.main(new String[0]);
        } finally {
            System.setOut(out);
        }
        List<String> got = printed.toString(StandardCharsets.UTF_8).lines().toList();
        for (List<String> block : blocks) {
            DUE.is("rows that are printed", got.size(), block.size());
            for (int i = 0; i < Math.min(got.size(), block.size()); i++) {
                DUE.is("\"" + got.get(i) + "\" is told", got.get(i).equals(block.get(i)), true);
            }
        }
    }

    private static void namesEveryCall(String page) {
        for (Method method : DiceRing.class.getDeclaredMethods()) {
            if (Modifier.isPublic(method.getModifiers())) {
                DUE.is("README names " + method.getName(), page.contains("`" + method.getName() + "("), true);
            }
        }
    }

    private static void namesEveryTest(String page) throws IOException {
        try (DirectoryStream<Path> files = Files.newDirectoryStream(TESTS, "*Test.java")) {
            for (Path file : files) {
                String name = file.getFileName().toString().replace(".java", "");
                DUE.is("README names " + name, page.contains("`" + name + "`"), true);
            }
        }
    }
}
