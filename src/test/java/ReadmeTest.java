import java.io.ByteArrayOutputStream;
import java.io.IOException;
import java.io.PrintStream;
import java.net.URL;
import java.net.URLClassLoader;
import java.nio.charset.StandardCharsets;
import java.nio.file.Files;
import java.nio.file.Path;
import java.util.ArrayList;
import java.util.Arrays;
import java.util.Comparator;
import java.util.List;
import java.util.Set;
import java.util.TreeSet;
import java.util.regex.Matcher;
import java.util.regex.Pattern;
import java.util.stream.Collectors;
import java.util.stream.Stream;
import javax.tools.JavaCompiler;
import javax.tools.ToolProvider;

/** What README.md says of use and of the tests holds. Arguments: the source, the document; README.md stands in the folder it is run in. */
public final class ReadmeTest {
    private static final Check CHECK = new Check("ReadmeTest");

    public static void main(String[] args) throws Exception {
        String readme = Files.readString(Path.of("README.md"));
        Path folder = Files.createTempDirectory("readme");
        try {
            example(readme, Path.of(args[0]), folder);
        } finally {
            remove(folder);
        }
        refusals(readme);
        tests(readme);
        CHECK.finish();
    }

    private static void example(String readme, Path source, Path folder) throws Exception {
        String program = onlyBlock(readme, "java");
        List<String> due = onlyBlock(readme, "text").lines().collect(Collectors.toList());
        Path example = folder.resolve("Example.java");
        Files.writeString(example, program);
        JavaCompiler compiler = ToolProvider.getSystemJavaCompiler();
        int code = compiler.run(null, null, null, "-Xlint:all", "-Werror", "-d", folder.toString(), source.toString(), example.toString());
        CHECK.due("javac of the example", code, 0);
        if (code != 0) {
            return;
        }
        List<String> got = printed(folder);
        CHECK.due("lines that the example prints", got.size(), due.size());
        for (int i = 0; i < Math.min(got.size(), due.size()); i++) {
            CHECK.that("the example prints [" + got.get(i) + "], README.md says [" + due.get(i) + "]", got.get(i).equals(due.get(i)));
        }
    }

    private static String onlyBlock(String readme, String kind) {
        Matcher m = Pattern.compile("(?ms)^```" + kind + "\\n(.*?)^```$").matcher(readme);
        List<String> blocks = new ArrayList<>();
        while (m.find()) {
            blocks.add(m.group(1));
        }
        CHECK.due("blocks of " + kind, blocks.size(), 1);
        return blocks.isEmpty() ? "" : blocks.get(0);
    }

    /** By a loader that has the compiled folder alone, so that the example meets the class as it was compiled with it. */
    private static List<String> printed(Path folder) throws Exception {
        PrintStream out = System.out;
        ByteArrayOutputStream kept = new ByteArrayOutputStream();
        try (URLClassLoader loader = new URLClassLoader(new URL[] {folder.toUri().toURL()}, ClassLoader.getPlatformClassLoader())) {
            System.setOut(new PrintStream(kept, true, StandardCharsets.UTF_8));
            loader.loadClass("Example").getMethod("main", String[].class).invoke(null, (Object) new String[0]);
        } finally {
            System.setOut(out);
        }
        return kept.toString(StandardCharsets.UTF_8).lines().collect(Collectors.toList());
    }

    /** Each number of the table, by a call that is refused as it says. */
    private static void refusals(String readme) {
        Set<String> told = new TreeSet<>();
        Matcher m = Pattern.compile("(?m)^\\| (-\\d+)[ |]").matcher(readme);
        while (m.find()) {
            told.add(m.group(1));
        }
        WarByHours x = new WarByHours();
        Set<String> met = new TreeSet<>();
        int none = x.end(1);
        int noWar = x.late(0);
        int belowZero = x.row(0, 0, -1);
        int nothing = x.back(0);
        int fault = Texts.war(x, "war;");
        Texts.war(x, Texts.WHOLE);
        int noChange = x.undo();
        int emptySlot = x.write(0, 0, 0);
        x.row(0, 0, 1);
        x.row(1, 1, 1);
        int beyond = x.write(0, 1, 0);
        int otherWidth = x.paste(0, 0, 1, 0, 1);
        int noFront = x.front(-1, 0);
        for (int answer : new int[] {none, noWar, belowZero, nothing, fault, noChange, emptySlot, beyond, otherWidth, noFront}) {
            met.add(Integer.toString(answer));
        }
        CHECK.that("README.md tells " + told + ", the class answers " + met, told.equals(met) && told.size() == 9);
    }

    /** README.md names each test that there is, and none that there is not. */
    private static void tests(String readme) throws IOException {
        Set<String> named = new TreeSet<>();
        Matcher m = Pattern.compile("src/test/java/(\\w+Test)\\.java").matcher(readme);
        while (m.find()) {
            named.add(m.group(1));
        }
        String[] files = Path.of("src/test/java").toFile().list((folder, name) -> name.endsWith("Test.java"));
        Set<String> there = Arrays.stream(files == null ? new String[0] : files).map(f -> f.replace(".java", ""))
            .collect(Collectors.toCollection(TreeSet::new));
        CHECK.that("README.md names " + named + ", there are " + there, named.equals(there));
        CHECK.that(".ci/run can be run", Files.isExecutable(Path.of(".ci/run")) && readme.contains("`.ci/run`"));
    }

    private static void remove(Path folder) throws IOException {
        try (Stream<Path> all = Files.walk(folder)) {
            for (Path path : all.sorted(Comparator.reverseOrder()).collect(Collectors.toList())) {
                Files.delete(path);
            }
        }
    }
}
