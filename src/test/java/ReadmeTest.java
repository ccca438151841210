import java.io.IOException;
import java.lang.reflect.Method;
import java.lang.reflect.Modifier;
import java.net.URL;
import java.net.URLClassLoader;
import java.nio.charset.StandardCharsets;
import java.nio.file.Files;
import java.nio.file.Path;
import java.util.ArrayList;
import java.util.Comparator;
import java.util.List;
import java.util.regex.Matcher;
import java.util.regex.Pattern;
import java.util.stream.Stream;
import javax.tools.ToolProvider;

/** The examples of README.md answer as it says there. Runs in the project's root. */
public final class ReadmeTest {
    private static final Check CHECK = new Check();
    /** One call a line, with its answer and what is said of it behind a colon. */
    private static final Pattern ANSWERED =
        Pattern.compile("(?:(int|boolean) (\\w+) = )?(\\S.*);\\s*// (-?\\d+|true|false|NONE|NOTHING)(: .*)?");
    private static final Pattern FAULT = Pattern.compile("\\| `([^`]*)` \\| (\\d) \\| (\\d+) \\| .* \\|");
    private static final Pattern SUM = Pattern.compile("\\| `([^`]*)` \\| (-?\\d+) \\|");

    /** Told by the program that the examples make; it is compiled apart, so it hands over plain texts. */
    private static final String START = "public final class Readme implements java.util.function.Consumer<java.util.List<String>> {"
        + " private java.util.List<String> told;"
        + " private void due(int line, Object got, Object want) { if (!got.equals(want)) {"
        + " told.add(\"README.md, line \" + line + \", answered \" + got + \", due is \" + want); } }\n";
    private static final String MAIN = " public void accept(java.util.List<String> wrong) { told = wrong;"
        + " final int NONE = BreathRoad.NONE; final int NOTHING = BreathRoad.NOTHING;\n";

    private final StringBuilder members = new StringBuilder();
    private final StringBuilder body = new StringBuilder();
    private int answers = 0;
    private int faults = 0;
    private int sums = 0;

    public static void main(String[] args) throws Exception {
        ReadmeTest test = new ReadmeTest();
        test.read(Files.readAllLines(Path.of("README.md"), StandardCharsets.UTF_8));
        test.run();
        test.asksEachCall();
        CHECK.due("answers told in README.md, more than 60", test.answers > 60, true);
        CHECK.due("faults told in README.md, thirteen", test.faults, 13);
        CHECK.due("sums told in README.md, thirteen", test.sums, 13);
        CHECK.finish();
    }

    private void read(List<String> lines) {
        StringBuilder block = null;
        for (int i = 0; i < lines.size(); i++) {
            String line = lines.get(i);
            if (block == null) {
                table(i + 1, line);
                block = line.equals("```java") ? new StringBuilder() : null;
            } else if (line.equals("```")) {
                (block.indexOf("static ") == 0 ? members : body).append(block);
                block = null;
            } else {
                block.append(asked(i + 1, line)).append('\n');
            }
        }
    }

    /** A line of an example, made to tell what it answered. */
    private String asked(int number, String line) {
        Matcher matcher = ANSWERED.matcher(line);
        boolean answered = matcher.matches();
        CHECK.due("README.md, line " + number + ", an answer that is none", line.contains("//"), answered);
        if (!answered) {
            return line;
        }
        answers++;
        boolean named = matcher.group(1) != null;
        return (named ? matcher.group(1) + " " + matcher.group(2) + " = " + matcher.group(3) + "; " : "")
            + "due(" + number + ", " + (named ? matcher.group(2) : matcher.group(3)) + ", " + matcher.group(4) + ");";
    }

    private void table(int number, String line) {
        Matcher fault = FAULT.matcher(line);
        if (fault.matches()) {
            faults++;
            BreathRoad x = new BreathRoad();
            CHECK.due("README.md, line " + number + ": road()", Check.road(x, fault.group(1)), BreathRoad.NONE);
            CHECK.due("README.md, line " + number + ": fault(0)", x.fault(0), Integer.parseInt(fault.group(2)));
            CHECK.due("README.md, line " + number + ": fault(1)", x.fault(1), Integer.parseInt(fault.group(3)));
            return;
        }
        Matcher sum = SUM.matcher(line);
        if (sum.matches()) {
            sums++;
            BreathRoad x = Check.of("tunnel t gap 7 at 5 weighs 1;holder h breath 8 laughs 0;worth " + sum.group(1) + ";");
            CHECK.due("README.md, line " + number + ": worth", x.worth(0, 0, 5), Integer.parseInt(sum.group(2)));
        }
    }

    private void run() throws Exception {
        Path out = Files.createTempDirectory("readme");
        try {
            Path file = out.resolve("Readme.java");
            Files.writeString(file, START + members + MAIN + body + "}}\n");
            int failed = ToolProvider.getSystemJavaCompiler().run(null, null, null, "-d", out.toString(), "-cp",
                System.getProperty("java.class.path"), file.toString());
            CHECK.due("the examples of README.md do not compile", failed, 0);
            if (failed == 0) {
                runCompiled(out);
            }
        } finally {
            delete(out);
        }
    }

    @SuppressWarnings("unchecked")
    private void runCompiled(Path out) throws Exception {
        List<String> wrong = new ArrayList<>();
        try (URLClassLoader loader = new URLClassLoader(new URL[] {out.toUri().toURL()})) {
            Object program = loader.loadClass("Readme").getDeclaredConstructor().newInstance();
            ((java.util.function.Consumer<List<String>>) program).accept(wrong);
        }
        for (String line : wrong) {
            CHECK.due(line, false, true);
        }
    }

    private static void delete(Path folder) throws IOException {
        try (Stream<Path> all = Files.walk(folder)) {
            for (Path path : all.sorted(Comparator.reverseOrder()).toList()) {
                Files.delete(path);
            }
        }
    }

    /** No call of the face is without an example. */
    private void asksEachCall() {
        String examples = members.toString() + body;
        for (Method method : BreathRoad.class.getDeclaredMethods()) {
            if (Modifier.isPublic(method.getModifiers())) {
                CHECK.due("README.md has " + method.getName(), examples.contains("x." + method.getName() + "("), true);
            }
        }
    }
}
