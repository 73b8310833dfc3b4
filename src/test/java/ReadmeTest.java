import java.io.ByteArrayOutputStream;
import java.io.PrintStream;
import java.lang.reflect.Method;
import java.net.URL;
import java.net.URLClassLoader;
import java.nio.charset.StandardCharsets;
import java.nio.file.Files;
import java.nio.file.Path;
import java.util.Comparator;
import java.util.List;
import java.util.Set;
import java.util.TreeSet;
import java.util.regex.Matcher;
import java.util.regex.Pattern;
import java.util.stream.Stream;
import javax.tools.ToolProvider;

/** What README.md says of the class: its program, what that prints, the findings, the calls, the tests. */
public final class ReadmeTest {
    private static final String PROGRAM = "Evening";
    private static final List<String> FINDINGS =
        List.of("BEYOND", "FULL", "KIND", "NONE", "STATE", "MISSING", "SIZE");

    private ReadmeTest() {
    }

    public static void main(String[] args) throws Exception {
        String readme = Files.readString(Path.of("README.md"), StandardCharsets.UTF_8);
        holds("the program prints what is told", printed(block(readme, "java")).equals(block(readme, "text")));
        findings(readme);
        calls(readme);
        tests(readme);
        Due.end();
    }

    /** The first block of a sort, without its fences. */
    private static String block(String readme, String sort) {
        Matcher matcher = Pattern.compile("```" + sort + "\n(.*?)```", Pattern.DOTALL).matcher(readme);
        holds("there is a block of " + sort, matcher.find());
        return matcher.group(1);
    }

    private static String printed(String program) throws Exception {
        Path place = Files.createTempDirectory("readme");
        try {
            Path source = place.resolve(PROGRAM + ".java");
            Files.writeString(source, program, StandardCharsets.UTF_8);
            int errors = ToolProvider.getSystemJavaCompiler().run(null, null, null, "-d", place.toString(),
                "src/main/java/LeftGloves.java", source.toString());
            Due.is("errors in README's program", errors, 0);
            return errors == 0 ? run(place) : "";
        } finally {
            remove(place);
        }
    }

    private static String run(Path place) throws Exception {
        PrintStream usual = System.out;
        ByteArrayOutputStream bytes = new ByteArrayOutputStream();
        try (URLClassLoader loader = new URLClassLoader(new URL[] {place.toUri().toURL()}, null)) {
            System.setOut(new PrintStream(bytes, true, StandardCharsets.UTF_8));
            loader.loadClass(PROGRAM).getMethod("main", String[].class).invoke(null, (Object) new String[0]);
        } finally {
            System.setOut(usual);
        }
        return bytes.toString(StandardCharsets.UTF_8).replace("\r", "");
    }

    private static void remove(Path place) throws Exception {
        try (Stream<Path> files = Files.walk(place)) {
            for (Path file : files.sorted(Comparator.reverseOrder()).toList()) {
                Files.delete(file);
            }
        }
    }

    private static void findings(String readme) {
        int told = 0;
        Matcher matcher = Pattern.compile("\\| (-\\d+) \\| (\\w+) +\\| (\\d) +\\|").matcher(readme);
        while (matcher.find()) {
            Due.is(matcher.group(2), Integer.parseInt(matcher.group(1)), Due.BEYOND - told);
            Due.is(matcher.group(2) + " of status()", Integer.parseInt(matcher.group(3)), told);
            Due.is("place of " + matcher.group(2), FINDINGS.indexOf(matcher.group(2)), told);
            told++;
        }
        Due.is("findings told", told, FINDINGS.size());
    }

    /** README's table has every call of the class once, and nothing else. */
    private static void calls(String readme) {
        String table = readme.substring(readme.indexOf("### The calls"), readme.indexOf("## Tests"));
        Set<String> told = new TreeSet<>();
        Matcher matcher = Pattern.compile("`(\\w+)`").matcher(table);
        while (matcher.find()) {
            holds("told once: " + matcher.group(1), told.add(matcher.group(1)));
        }
        Set<String> there = new TreeSet<>();
        for (Method method : LeftGloves.class.getDeclaredMethods()) {
            if (java.lang.reflect.Modifier.isPublic(method.getModifiers())) {
                there.add(method.getName());
            }
        }
        holds("the calls told are those of the class", told.equals(there));
    }

    private static void tests(String readme) throws Exception {
        String told = readme.substring(readme.indexOf("## Tests"));
        try (Stream<Path> files = Files.list(Path.of("src/test/java"))) {
            for (Path file : files.sorted().toList()) {
                String name = file.getFileName().toString().replace(".java", "");
                if (name.endsWith("Test")) {
                    holds("README tells of " + name, told.contains(name.startsWith("Edges") ? "Edges...Test" : "`" + name + "`"));
                }
            }
        }
    }

    private static void holds(String what, boolean so) {
        Due.is(what, so ? 1 : 0, 1);
    }
}
