import java.io.File;
import java.io.IOException;
import java.io.StringWriter;
import java.lang.reflect.InvocationTargetException;
import java.lang.reflect.Method;
import java.lang.reflect.Modifier;
import java.net.URI;
import java.nio.file.DirectoryStream;
import java.nio.file.Files;
import java.nio.file.Path;
import java.util.ArrayList;
import java.util.List;
import java.util.regex.Matcher;
import java.util.regex.Pattern;
import javax.tools.JavaCompiler;
import javax.tools.JavaFileObject;
import javax.tools.SimpleJavaFileObject;
import javax.tools.ToolProvider;

/** What README.md says is so: its examples compile and answer as they say, and it names every call and every test. */
public final class ReadmeTest {
    private static final Pattern BLOCK = Pattern.compile("(?s)```java\n(.*?)```");
    private static final Pattern ANSWERED = Pattern.compile("(?:int (\\w+) = )?(house\\..*\\));\\s*"
        + "// (-?\\d+(?:\\.\\d+)?|true|false|throws \\w+)(?:: .*)?");
    private static final Pattern PATH = Pattern.compile("`(?!\\.\\./)([\\w./]*/[\\w./]+)`");

    private ReadmeTest() {
    }

    public static void main(String[] args) throws IOException, ReflectiveOperationException {
        String page = Files.readString(Path.of("README.md"));
        runExamples(page);
        namesWhatIsThere(page);
        Check.end();
    }

    // ---- the examples

    private static void runExamples(String page) throws ReflectiveOperationException {
        StringBuilder source = new StringBuilder("final class ReadmeExamples {\n");
        List<String> toRun = new ArrayList<>();
        Matcher block = BLOCK.matcher(page);
        while (block.find()) {
            String name = "example" + toRun.size();
            boolean hasAnswers = block.group(1).contains("new Slugwire()");
            source.append("static void ").append(name).append("AsItStands() {\n").append(block.group(1)).append("}\n");
            if (hasAnswers) {
                source.append("static void ").append(name).append("() {\n");
                source.append(withAnswersTested(block.group(1))).append("}\n");
            }
            toRun.add(hasAnswers ? name : name + "AsItStands");
        }
        Check.due("examples on the page", toRun.size(), 2);
        String errors = compile("ReadmeExamples", source.append("}\n").toString());
        Check.dueText("compiling the examples", errors, "");
        for (String name : errors.isEmpty() ? toRun : List.<String>of()) {
            run(Class.forName("ReadmeExamples").getDeclaredMethod(name));
        }
    }

    /** The example line by line, each call of it with a test of the answer that stands behind it. */
    private static String withAnswersTested(String example) {
        StringBuilder tested = new StringBuilder();
        for (String line : example.split("\n")) {
            Matcher answered = ANSWERED.matcher(line);
            boolean isAnswered = answered.matches();
            Check.due("README.md tells the answer of: " + line, isAnswered, line.contains("house."));
            tested.append(isAnswered ? testOf(answered.group(1), answered.group(2), answered.group(3)) : line);
            tested.append('\n');
        }
        return tested.toString();
    }

    private static String testOf(String name, String call, String answer) {
        String ahead = "Check.dueText(\"README.md: " + call + "\", ";
        String behind = ", \"" + answer + "\");";
        if (answer.startsWith("throws")) {
            return ahead + "ReadmeTest.thrownBy(() -> " + call + ")" + behind;
        }
        if (name == null) {
            return ahead + "String.valueOf(" + call + ")" + behind;
        }
        return "int " + name + " = " + call + "; " + ahead + "String.valueOf(" + name + ")" + behind;
    }

    static String thrownBy(Runnable call) {
        try {
            call.run();
            return "throws nothing";
        } catch (RuntimeException e) {
            return "throws " + e.getClass().getSimpleName();
        }
    }

    /** Puts the class to those of this test; the compiler's errors, none if there are none. */
    private static String compile(String name, String source) {
        JavaCompiler compiler = ToolProvider.getSystemJavaCompiler();
        URI place = URI.create("string:///" + name + ".java");
        JavaFileObject file = new SimpleJavaFileObject(place, JavaFileObject.Kind.SOURCE) {
            @Override
            public CharSequence getCharContent(boolean ignoresEncodingErrors) {
                return source;
            }
        };
        String classes = System.getProperty("java.class.path");
        StringWriter errors = new StringWriter();
        List<String> options = List.of("-cp", classes, "-d", classes.split(File.pathSeparator)[0]);
        boolean isFine = compiler.getTask(errors, null, null, options, null, List.of(file)).call();
        return isFine ? "" : "errors: " + errors;
    }

    private static void run(Method example) throws IllegalAccessException {
        String thrown = "nothing";
        try {
            example.invoke(null);
        } catch (InvocationTargetException e) {
            thrown = e.getCause().toString();
        }
        Check.dueText("README.md: " + example.getName() + " throws", thrown, "nothing");
    }

    // ---- the names

    private static void namesWhatIsThere(String page) throws IOException {
        for (Method method : Slugwire.class.getDeclaredMethods()) {
            if (Modifier.isPublic(method.getModifiers())) {
                Check.due("README.md names " + method.getName(), page.contains("`" + method.getName() + "`"), true);
            }
        }
        try (DirectoryStream<Path> tests = Files.newDirectoryStream(Path.of("src/test/java"), "*Test.java")) {
            for (Path test : tests) {
                Check.due("README.md names " + test, page.contains("`src/test/java/" + test.getFileName() + "`"), true);
            }
        }
        Matcher path = PATH.matcher(page);
        while (path.find()) {
            Check.due("README.md: there is " + path.group(1), Files.exists(Path.of(path.group(1))), true);
        }
        Check.due("README.md tells to run .ci/run", page.contains("\nbash .ci/run\n"), true);
        Check.due(".ci/run can be run", Files.isExecutable(Path.of(".ci/run")), true);
    }
}
