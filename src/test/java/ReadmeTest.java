import java.io.ByteArrayOutputStream;
import java.lang.invoke.MethodHandles;
import java.lang.reflect.Method;
import java.lang.reflect.Modifier;
import java.nio.charset.StandardCharsets;
import java.nio.file.Files;
import java.nio.file.Path;
import java.util.ArrayList;
import java.util.List;
import java.util.Set;
import java.util.TreeSet;
import java.util.regex.Matcher;
import java.util.regex.Pattern;
import java.util.stream.Stream;
import javax.tools.JavaCompiler;
import javax.tools.ToolProvider;

/**
 * What README.md shows as code compiles as it stands there, and each call gives the answer that the
 * comment behind it begins with: from the class, and from the model too, for a Run takes the place of
 * each LatticeVault. That also counts the calls of each object, of which 512 are promised.
 */
public final class ReadmeTest {
    private static final Pattern CALL = Pattern.compile("(\\w+\\.(\\w+)\\(.*\\));\\s*(?://\\s*(.*))?");
    private static final Pattern ANSWER = Pattern.compile("(-?\\d+|true|false)\\b.*");

    private final Due due = new Due("ReadmeTest");
    private final List<String> readme;
    private final StringBuilder imports = new StringBuilder();
    private final StringBuilder shown = new StringBuilder();
    private final StringBuilder asked = new StringBuilder();
    private final Set<String> called = new TreeSet<>();
    private int blocks;

    private ReadmeTest(List<String> readme) {
        this.readme = readme;
    }

    public static void main(String[] args) throws Exception {
        ReadmeTest test = new ReadmeTest(Files.readAllLines(Path.of("README.md")));
        test.readBlocks();
        test.callsAnswerAsNamed();
        test.eachMethodIsShown();
        test.eachTestIsNamed();
        test.due.finish();
    }

    private void readBlocks() {
        int i = 0;
        while (i < readme.size()) {
            if (readme.get(i).equals("```java")) {
                int start = i + 1;
                i = start;
                while (i < readme.size() && !readme.get(i).equals("```")) {
                    i++;
                }
                readBlock(start, i);
            }
            i++;
        }
    }

    /** A block is either the inside of a method or, if it begins with 'static', methods. */
    private void readBlock(int start, int end) {
        int first = start;
        while (first < end && (readme.get(first).isBlank() || readme.get(first).startsWith("import "))) {
            imports.append(readme.get(first)).append('\n');
            first++;
        }
        boolean methods = first < end && readme.get(first).startsWith("static ");
        if (!methods) {
            blocks++;
            shown.append("static void block").append(blocks).append("() {\n");
            asked.append("static void block").append(blocks).append("() {\n");
        }
        for (int i = first; i < end; i++) {
            shown.append(readme.get(i)).append('\n');
            asked.append(askedLine(i, readme.get(i))).append('\n');
        }
        if (!methods) {
            shown.append("}\n");
            asked.append("}\n");
        }
    }

    /** A call at the margin is done just once, so it can name its answer, and has to. */
    private String askedLine(int index, String line) {
        String code = line.replace("new LatticeVault()", "new Run(due, \"README.md\")")
                .replaceAll("\\bLatticeVault\\b", "Run");
        Matcher call = CALL.matcher(code);
        if (!call.matches()) {
            return code;
        }
        String where = "README.md, line " + (index + 1) + ": " + call.group(1);
        called.add(call.group(2));
        Matcher answer = ANSWER.matcher(call.group(3) == null ? "" : call.group(3));
        due.is(where + " names its answer", answer.matches(), true);
        if (!answer.matches()) {
            return code;
        }
        String want = answer.group(1).replace("true", "1").replace("false", "0");
        return "due.is(\"" + where.replace("\"", "\\\"") + "\", " + call.group(1) + ", " + want + "L);";
    }

    private void callsAnswerAsNamed() throws Exception {
        due.is("README.md shows blocks of code", blocks > 0, true);
        compile("ReadmeShown", imports + "final class ReadmeShown {\n" + shown + "}\n");
        byte[] code = compile("ReadmeAsked", imports + "final class ReadmeAsked {\nstatic Due due;\n" + asked + "}\n");
        if (code == null) {
            return;
        }
        Class<?> made = MethodHandles.lookup().defineClass(code);
        made.getDeclaredField("due").set(null, due);
        for (int block = 1; block <= blocks; block++) {
            made.getDeclaredMethod("block" + block).invoke(null);
        }
    }

    /** What the class file holds, or null if there is none. */
    private byte[] compile(String name, String source) throws Exception {
        Path place = Files.createTempDirectory("readme");
        Path file = place.resolve(name + ".java");
        Path made = place.resolve(name + ".class");
        Files.writeString(file, source);
        ByteArrayOutputStream said = new ByteArrayOutputStream();
        JavaCompiler compiler = ToolProvider.getSystemJavaCompiler();
        int exit = compiler.run(null, said, said, "--release", "17", "-Xlint:all", "-Werror",
                "-cp", System.getProperty("java.class.path"), "-d", place.toString(), file.toString());
        due.is("the code of README.md compiles: " + said.toString(StandardCharsets.UTF_8), exit, 0);
        byte[] code = exit == 0 ? Files.readAllBytes(made) : null;
        Files.deleteIfExists(made);
        Files.delete(file);
        Files.delete(place);
        return code;
    }

    private void eachMethodIsShown() {
        for (Method method : LatticeVault.class.getDeclaredMethods()) {
            if (Modifier.isPublic(method.getModifiers())) {
                String name = method.getName();
                due.is("README.md calls " + name, called.contains(name), true);
                long rows = readme.stream().filter(line -> line.startsWith("| `" + name + "(")).count();
                due.is("README.md has a row for " + name, rows, 1);
            }
        }
    }

    private void eachTestIsNamed() throws Exception {
        String all = String.join("\n", readme);
        List<String> names = new ArrayList<>();
        try (Stream<Path> files = Files.list(Path.of("src/test/java"))) {
            files.forEach(file -> names.add(file.getFileName().toString().replace(".java", "")));
        }
        for (String name : names) {
            due.is("README.md names " + name, all.contains("`" + name + "`"), true);
        }
    }
}
