import java.lang.reflect.Field;
import java.lang.reflect.Method;
import java.lang.reflect.Modifier;
import java.nio.charset.StandardCharsets;
import java.nio.file.Files;
import java.nio.file.Path;
import java.util.Set;
import java.util.TreeSet;
import java.util.regex.Matcher;
import java.util.regex.Pattern;

/** The face of the document, and what can be seen of LANGUAGE.md's rules from outside. Runs in the project's root. */
public final class LanguageTest {
    private static final Check CHECK = new Check();
    private static final String FACE = "int feed 5;boolean end 1;int road 0;int fault 1;int has 1;int letter 3;int tunnel 2;"
        + "int holder 2;int score 1;int likely 2;int holds 3;int made 2;int worth 3;int tired 4;int alone 3;int on 3;int rest 2;"
        + "int hidden 3;int pace 3;int whom 3;int faces 1;int fit 1;int drive 1;int pause 0;int believe 3;int give 2;"
        + "boolean undo 0;boolean seed 1;int kept 2;int image 0;int octet 1;boolean goOn 0;int status 1";

    public static void main(String[] args) throws Exception {
        face();
        inside();
        source(Files.readString(Path.of("src/main/java/BreathRoad.java"), StandardCharsets.ISO_8859_1));
        CHECK.finish();
    }

    private static void face() {
        Class<?> c = BreathRoad.class;
        CHECK.due("public final", Modifier.isPublic(c.getModifiers()) && Modifier.isFinal(c.getModifiers()), true);
        CHECK.due("one constructor", c.getDeclaredConstructors().length, 1);
        CHECK.due("it is public", Modifier.isPublic(c.getDeclaredConstructors()[0].getModifiers()), true);
        Set<String> got = new TreeSet<>();
        Set<String> names = new TreeSet<>();
        for (Method m : c.getDeclaredMethods()) {
            if (Modifier.isPublic(m.getModifiers())) {
                got.add(m.getReturnType() + " " + m.getName() + " " + m.getParameterCount());
                names.add(m.getName());
                CHECK.due(m + " is no static one", Modifier.isStatic(m.getModifiers()), false);
            } else {
                CHECK.due(m + " is private", Modifier.isPrivate(m.getModifiers()), true);
            }
        }
        Set<String> want = new TreeSet<>(Set.of(FACE.split(";")));
        CHECK.due("the face " + got, got.equals(want), true);
        for (Method m : c.getDeclaredMethods()) {
            boolean same = !Modifier.isPublic(m.getModifiers()) && names.contains(m.getName());
            CHECK.due(m + " bears a public one's name", same, false);
        }
        for (Field f : c.getDeclaredFields()) {
            boolean told = f.getName().equals("NONE") || f.getName().equals("NOTHING");
            CHECK.due(f + " is public", Modifier.isPublic(f.getModifiers()), told);
            CHECK.due(f + " is private", Modifier.isPrivate(f.getModifiers()), !told);
        }
    }

    private static void inside() {
        Class<?>[] classes = BreathRoad.class.getDeclaredClasses();
        CHECK.due("twelve classes at most", classes.length + 1 <= 12, true);
        for (Class<?> c : classes) {
            CHECK.due(c + " is static", Modifier.isStatic(c.getModifiers()), true);
            CHECK.due(c + " is private", Modifier.isPrivate(c.getModifiers()), true);
            fields(c);
        }
        fields(BreathRoad.class);
    }

    private static void fields(Class<?> c) {
        int fields = 0;
        for (Field f : c.getDeclaredFields()) {
            if (Modifier.isStatic(f.getModifiers())) {
                CHECK.due(f + " is final", Modifier.isFinal(f.getModifiers()), true);
            } else {
                fields++;
            }
        }
        CHECK.due(c + " has twenty fields at most", fields <= 20, true);
        for (Method m : c.getDeclaredMethods()) {
            CHECK.due(m + " takes seven at most", m.getParameterCount() <= 7, true);
        }
    }

    private static void source(String text) {
        CHECK.due("plain signs alone", text.chars().allMatch(c -> c == 10 || c >= 32 && c < 127), true);
        String code = text.replaceAll("(?s)/\\*.*?\\*/", "").replaceAll("//[^\n]*", "").replaceAll("\"[^\"\n]*\"", "\"\"");
        for (String word : ("throw try catch synchronized assert package instanceof double float HashMap Random System.out"
                + " System.in System.nano System.current Thread var yield volatile").split(" ")) {
            CHECK.due(word + " is used", Pattern.compile("\\b" + word.replace(".", "\\.") + "\\b").matcher(code).find(), false);
        }
        CHECK.due("a lambda is used", code.contains("->"), false);
        CHECK.due("a method reference is used", code.contains("::"), false);
        CHECK.due("texts joined by +", code.contains("\"\" +") || code.contains("+ \"\""), false);
        CHECK.due("Exact is used", Pattern.compile("\\wExact\\b").matcher(code).find(), false);
        Matcher imports = Pattern.compile("import ([^;]+);").matcher(code);
        while (imports.find()) {
            CHECK.due("import " + imports.group(1), imports.group(1).equals("java.util.Arrays"), true);
        }
        methodLengths(text.split("\n"));
    }

    private static void methodLengths(String[] lines) {
        int from = -1;
        String close = "";
        for (int i = 0; i < lines.length; i++) {
            if (from < 0 && lines[i].matches(" {4}( {4})?[^ /*].*\\) \\{")) {
                from = i;
                close = lines[i].replaceAll("^( +).*", "$1") + "}";
            } else if (from >= 0 && lines[i].equals(close)) {
                CHECK.due("lines at " + (from + 1) + " are sixty at most", i - from < 60, true);
                from = -1;
            }
        }
    }
}
