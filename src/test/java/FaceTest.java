import java.lang.reflect.Constructor;
import java.lang.reflect.Field;
import java.lang.reflect.Method;
import java.lang.reflect.Modifier;
import java.nio.file.Files;
import java.nio.file.Path;
import java.util.Arrays;
import java.util.Set;
import java.util.TreeSet;
import java.util.regex.Matcher;
import java.util.regex.Pattern;

/** The public face of the document, and those rules of LANGUAGE.md that can be seen from outside. */
public final class FaceTest {
    private static final Set<String> FACE = new TreeSet<>(Arrays.asList(
            "int feed(int, int, int, int, int)", "int end(int)", "int take(int)", "boolean alter(int, int)",
            "int choose(int)", "int bound(int)", "int length(int)", "int at(int, int)", "int make()",
            "int load(int)", "int wrap()", "int unwrap()", "int hash(int, int)", "int put(int, int, int)",
            "int number(int, int)", "boolean forward(int)", "boolean back(int)", "boolean pairs(int, int, int)",
            "boolean add(int, int, int)", "boolean press(int, int)", "boolean stretch(int, int)",
            "int encode(int, int)", "int decode(int, int)", "int sample(int, int, int)", "int noise(int, int, int)"));

    private static final String[] BANNED = {
        "\\bthrow\\b", "\\bthrows\\b", "\\btry\\b", "\\bcatch\\b", "\\bfinally\\b", "\\bsynchronized\\b",
        "\\bassert\\b", "->", "::", "\\w+Exact\\b", "\\bprotected\\b", "\\bpackage\\b", "\\bSystem\\.(?!arraycopy\\b)",
        "\\bvolatile\\b", "\\btransient\\b", "\\bnative\\b", "\\bstatic\\s*\\{"
    };

    private final Due due = new Due("FaceTest");

    public static void main(String[] args) throws Exception {
        FaceTest test = new FaceTest();
        test.face();
        test.nestedClasses();
        test.source();
        test.sourceHasTheFace();
        test.due.finish();
    }

    private static String signature(Method method) {
        String parameters = Arrays.toString(method.getParameterTypes());
        return method.getReturnType() + " " + method.getName() + "(" + parameters.substring(1, parameters.length() - 1) + ")";
    }

    private void face() throws Exception {
        Class<?> vault = LatticeVault.class;
        due.is("public and final", vault.getModifiers(), Modifier.PUBLIC | Modifier.FINAL);
        Set<String> open = new TreeSet<>();
        Set<String> names = new TreeSet<>();
        for (Method method : vault.getDeclaredMethods()) {
            if (Modifier.isPublic(method.getModifiers())) {
                open.add(signature(method));
                names.add(method.getName());
                due.is(method + " is no static one", Modifier.isStatic(method.getModifiers()), false);
            }
        }
        due.is("the public methods", open.toString(), FACE.toString());
        for (Method method : vault.getDeclaredMethods()) {
            if (!Modifier.isPublic(method.getModifiers())) {
                due.is(method + " is private", Modifier.isPrivate(method.getModifiers()), true);
                due.is(method + " has a name of its own", names.contains(method.getName()), false);
            }
        }
        for (Field field : vault.getDeclaredFields()) {
            boolean constant = field.getName().equals("NONE");
            due.is(field + " is open", Modifier.isPublic(field.getModifiers()), constant);
            due.is(field + " is private", Modifier.isPrivate(field.getModifiers()), !constant);
        }
        due.is("NONE", LatticeVault.NONE, -1);
        due.is("NONE is a constant", vault.getDeclaredField("NONE").getModifiers(),
                Modifier.PUBLIC | Modifier.STATIC | Modifier.FINAL);
        Constructor<?>[] constructors = vault.getDeclaredConstructors();
        due.is("how many constructors", constructors.length, 1);
        due.is("its parameters", constructors[0].getParameterCount(), 0);
        due.is("it is public", Modifier.isPublic(constructors[0].getModifiers()), true);
    }

    private void nestedClasses() {
        Class<?>[] nested = LatticeVault.class.getDeclaredClasses();
        due.is("at most twelve classes", nested.length + 1 <= 12, true);
        Set<String> names = new TreeSet<>();
        for (Method method : LatticeVault.class.getDeclaredMethods()) {
            if (Modifier.isPublic(method.getModifiers())) {
                names.add(method.getName());
            }
        }
        for (Class<?> each : nested) {
            due.is(each + " is static", Modifier.isStatic(each.getModifiers()), true);
            due.is(each + " is not open", (each.getModifiers() & (Modifier.PUBLIC | Modifier.PROTECTED)) == 0, true);
            int fields = 0;
            for (Field field : each.getDeclaredFields()) {
                boolean fixed = Modifier.isStatic(field.getModifiers());
                fields += fixed ? 0 : 1;
                due.is(field + " is final if static", !fixed || Modifier.isFinal(field.getModifiers()), true);
            }
            due.is(each + " has at most twenty fields", fields <= 20, true);
            for (Method method : each.getDeclaredMethods()) {
                due.is(method + " has a name of its own", names.contains(method.getName()), false);
                due.is(method + " has at most seven parameters", method.getParameterCount() <= 7, true);
            }
        }
    }

    private void source() throws Exception {
        String text = Files.readString(Path.of("src/main/java/LatticeVault.java"));
        String code = text.replaceAll("(?s)/\\*.*?\\*/", " ").replaceAll("//[^\\n]*", " ");
        for (String banned : BANNED) {
            Matcher found = Pattern.compile(banned).matcher(code);
            due.is("the source has " + banned, found.find() ? found.group() : "none", "none");
        }
        Matcher imports = Pattern.compile("\\bimport\\b[^;]*;").matcher(code);
        while (imports.find()) {
            due.is("an import", imports.group(), "import java.util.Arrays;");
        }
    }

    /** The lines of 'The public face' and what the interface says between them, in the document's order. */
    private void sourceHasTheFace() throws Exception {
        String source = Files.readString(Path.of("src/main/java/LatticeVault.java"));
        String document = Files.readString(Path.of("../shared/DOC.md"));
        Matcher face = Pattern.compile("(?m)^    (public [^;]*);$").matcher(document);
        int place = 0;
        int lines = 0;
        while (face.find()) {
            lines++;
            String line = face.group(1);
            String said = line.startsWith("public int make(") ? "// ---- keys"
                    : line.startsWith("public int hash(") ? "// ---- what is under them" : "";
            int found = source.indexOf(line, place);
            due.is("the source has '" + line + "' behind what is ahead of it", found >= 0, true);
            String between = source.substring(place, Math.max(found, place));
            due.is("ahead of it the source says '" + said + "'", between.trim().endsWith(said), true);
            place = Math.max(found, place);
        }
        due.is("the constant, the constructor and the methods", lines, 27);
    }
}
