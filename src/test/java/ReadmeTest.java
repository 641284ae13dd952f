import java.io.ByteArrayOutputStream;
import java.io.File;
import java.io.IOException;
import java.io.InputStream;
import java.nio.charset.StandardCharsets;
import java.nio.file.Files;
import java.nio.file.Path;
import java.util.Comparator;
import java.util.Set;
import java.util.TreeSet;
import java.util.regex.Matcher;
import java.util.regex.Pattern;
import java.util.stream.Stream;

/** README.md tells the truth: its program compiles and prints what the page says, its table names every test. */
public final class ReadmeTest {
    public static void main(String[] args) throws Exception {
        String page = Files.readString(Path.of("README.md"), StandardCharsets.UTF_8);
        Path folder = Files.createTempDirectory("readme");
        try {
            program(block(page, "java"), block(page, "text"), folder);
        } finally {
            remove(folder);
        }
        table(page);
        Checks.close("ReadmeTest");
    }

    /** The page has one block of each kind, so that it is plain which program prints what. */
    private static String block(String page, String kind) {
        Matcher m = Pattern.compile("```" + kind + "\n(.*?)```\n", Pattern.DOTALL).matcher(page);
        boolean found = m.find();
        Checks.due("a block of " + kind, found, true);
        String text = found ? m.group(1) : "";
        Checks.due("another block of " + kind, found && m.find(), false);
        return text;
    }

    private static void program(String source, String printed, Path folder) throws Exception {
        Path file = folder.resolve("Use.java");
        Files.writeString(file, source, StandardCharsets.UTF_8);
        String main = "src/main/java/BalloonStall.java";
        String[] compile = {"javac", "-Xlint:all", "-Werror", "-d", folder.toString(), main, file.toString()};
        if (!same("the compiler of its program", told(compile), "ends with 0\n")) {
            return;
        }
        String[] run = {"java", "-cp", folder.toString(), "Use"};
        same("its program", told(run), printed + "ends with 0\n");
    }

    /** What the machine itself may say of its settings goes to the error stream, and is no answer. */
    private static String told(String... command) throws IOException, InterruptedException {
        Process p = new ProcessBuilder(command).redirectError(ProcessBuilder.Redirect.INHERIT).start();
        ByteArrayOutputStream all = new ByteArrayOutputStream();
        try (InputStream in = p.getInputStream()) {
            in.transferTo(all);
        }
        String text = all.toString(StandardCharsets.UTF_8).replace(System.lineSeparator(), "\n");
        return text + "ends with " + p.waitFor() + "\n";
    }

    private static boolean same(String what, String got, String want) {
        Checks.due(what + " prints what the page says", got.equals(want), true);
        if (!got.equals(want)) {
            System.out.println(what + " prints:\n" + got);
        }
        return got.equals(want);
    }

    private static void table(String page) {
        Set<String> named = new TreeSet<>();
        Matcher m = Pattern.compile("^\\| (\\w+Test) \\|", Pattern.MULTILINE).matcher(page);
        while (m.find()) {
            named.add(m.group(1));
        }
        Set<String> there = new TreeSet<>();
        File[] files = new File("src/test/java").listFiles();
        for (File f : files == null ? new File[0] : files) {
            if (f.getName().endsWith("Test.java")) {
                there.add(f.getName().replace(".java", ""));
            }
        }
        Checks.due("tests that the table names but are not there, or the other way " + named + there,
            named.equals(there), true);
        Checks.due("no tests found", there.isEmpty(), false);
    }

    private static void remove(Path folder) throws IOException {
        try (Stream<Path> all = Files.walk(folder)) {
            for (Path p : all.sorted(Comparator.reverseOrder()).toList()) {
                Files.delete(p);
            }
        }
    }
}
