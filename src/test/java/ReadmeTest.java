import java.io.ByteArrayOutputStream;
import java.io.File;
import java.io.IOException;
import java.io.PrintStream;
import java.lang.reflect.Method;
import java.lang.reflect.Modifier;
import java.net.URL;
import java.net.URLClassLoader;
import java.nio.charset.StandardCharsets;
import java.nio.file.Files;
import java.nio.file.Path;
import java.util.ArrayList;
import java.util.List;
import java.util.TreeSet;
import java.util.regex.Matcher;
import java.util.regex.Pattern;
import javax.tools.JavaCompiler;
import javax.tools.ToolProvider;

/**
 * README.md: its Java compiles as it stands there, prints what README.md says that it prints, and
 * each call with an answer behind it answers that. No call of the face is left out, and no test.
 */
public final class ReadmeTest {
    private static final Pattern BLOCK = Pattern.compile("(?ms)^```(\\w*)\\n(.*?)^```$");
    private static final Pattern PROGRAM = Pattern.compile("(?m)^public final class (\\w+)");
    /** A call that stands alone in its line; what follows the answer behind a comma explains it. */
    private static final Pattern CALL =
        Pattern.compile("^(x\\.(\\w+)\\(.*\\)); *// ([^,]+)(, .*)?$");

    /** Calls, what they answered, what is due: checked later, for what a run prints is caught. */
    private static final List<String[]> ANSWERS = new ArrayList<>();

    private static Path directory;

    public static void main(String[] args) throws Exception {
        directory = Files.createTempDirectory("readme");
        try {
            String readme = Files.readString(Path.of("README.md"));
            TreeSet<String> called = new TreeSet<>();
            List<String[]> blocks = javaAndWhatItPrints(readme);
            for (int i = 0; i < blocks.size(); i++) {
                block("block " + i, blocks.get(i)[0], blocks.get(i)[1], called);
            }
            Check.same("the calls that README.md shows with answers", called.toString(),
                face().toString());
            Check.same("the tests that README.md names", testsIn(readme).toString(),
                tests().toString());
        } finally {
            delete(directory);
        }
        Check.finish("ReadmeTest");
    }

    /** What a block of Java prints is the next block of text, if no other Java comes before it. */
    private static List<String[]> javaAndWhatItPrints(String readme) {
        List<String[]> found = new ArrayList<>();
        Matcher m = BLOCK.matcher(readme);
        while (m.find()) {
            if (m.group(1).equals("java")) {
                found.add(new String[] {m.group(2), ""});
            } else if (m.group(1).equals("text")) {
                Check.same("there is Java before what it prints", found.isEmpty(), false);
                found.get(found.size() - 1)[1] += m.group(2);
            }
        }
        return found;
    }

    private static void block(String name, String java, String due, TreeSet<String> called)
            throws Exception {
        Matcher program = PROGRAM.matcher(java);
        if (program.find()) {
            Check.same(name + " prints", run(program.group(1), java), due);
            return;
        }
        String plain = name.replace(' ', '_');
        Check.same(name + " prints", run(plain, program(plain, java)), due);
        String asking = plain + "_answers";
        run(asking, program(asking, askingAnswers(java, called)));
        for (String[] answer : ANSWERS) {
            Check.same("README.md: " + answer[0], answer[1], answer[2]);
        }
        ANSWERS.clear();
    }

    private static String program(String name, String statements) {
        return "public final class " + name + " {\n    public static void main(String[] args) {\n"
            + statements + "    }\n}\n";
    }

    /** The same statements, but each call that stands alone is held to the answer behind it. */
    private static String askingAnswers(String java, TreeSet<String> called) {
        StringBuilder all = new StringBuilder();
        for (String line : java.split("\n")) {
            Matcher m = CALL.matcher(line);
            if (m.matches()) {
                called.add(m.group(2));
                all.append("ReadmeTest.answers(").append(quoted(m.group(1))).append(", ")
                    .append(m.group(1)).append(", ").append(quoted(m.group(3).strip()))
                    .append(");\n");
            } else {
                Check.same("a line with a call and no answer", line.startsWith("x."), false);
                all.append(line).append('\n');
            }
        }
        return all.toString();
    }

    private static String quoted(String text) {
        return "\"" + text.replace("\\", "\\\\").replace("\"", "\\\"") + "\"";
    }

    /** The programs that are made of README.md call this. */
    public static void answers(String call, Object got, String due) {
        ANSWERS.add(new String[] {call, String.valueOf(got), due});
    }

    /** What the program prints. */
    private static String run(String name, String java) throws Exception {
        Path source = directory.resolve(name + ".java");
        Files.writeString(source, java);
        JavaCompiler compiler = ToolProvider.getSystemJavaCompiler();
        String classes = System.getProperty("java.class.path");
        int wrong = compiler.run(null, null, null, "-encoding", "UTF-8", "-cp", classes,
            "-d", directory.toString(), source.toString());
        Check.same("README.md: " + name + " compiles", wrong, 0);
        if (wrong != 0) {
            return "";
        }
        PrintStream before = System.out;
        ByteArrayOutputStream printed = new ByteArrayOutputStream();
        URL[] places = {directory.toUri().toURL()};
        try (URLClassLoader loader = new URLClassLoader(places)) {
            Method main = loader.loadClass(name).getMethod("main", String[].class);
            System.setOut(new PrintStream(printed, true, StandardCharsets.UTF_8));
            main.invoke(null, (Object) new String[0]);
        } finally {
            System.setOut(before);
        }
        return printed.toString(StandardCharsets.UTF_8).replace(System.lineSeparator(), "\n");
    }

    private static TreeSet<String> face() {
        TreeSet<String> names = new TreeSet<>();
        for (Method method : FeederProtection.class.getDeclaredMethods()) {
            if (Modifier.isPublic(method.getModifiers())) {
                names.add(method.getName());
            }
        }
        return names;
    }

    private static TreeSet<String> tests() {
        TreeSet<String> names = new TreeSet<>();
        for (String file : filesOf(new File("src/test/java"))) {
            if (file.endsWith("Test.java")) {
                names.add(file.substring(0, file.length() - ".java".length()));
            }
        }
        return names;
    }

    private static TreeSet<String> testsIn(String readme) {
        TreeSet<String> names = new TreeSet<>();
        Matcher m = Pattern.compile("`(\\w+Test)`").matcher(readme);
        while (m.find()) {
            names.add(m.group(1));
        }
        return names;
    }

    private static List<String> filesOf(File place) {
        List<String> names = new ArrayList<>();
        String[] found = place.list();
        for (String name : found == null ? new String[0] : found) {
            names.add(name);
        }
        return names;
    }

    private static void delete(Path place) throws IOException {
        for (String name : filesOf(place.toFile())) {
            Files.delete(place.resolve(name));
        }
        Files.delete(place);
    }
}
