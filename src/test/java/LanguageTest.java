import java.lang.reflect.Constructor;
import java.lang.reflect.Field;
import java.lang.reflect.Method;
import java.lang.reflect.Modifier;
import java.nio.charset.StandardCharsets;
import java.nio.file.Files;
import java.nio.file.Path;
import java.util.Arrays;
import java.util.Set;
import java.util.TreeSet;
import java.util.stream.Collectors;

/** The face of the document, as another class sees it, and the signs of the file. Runs in the project's root. */
public final class LanguageTest {
    private static final Check CHECK = new Check();
    private static final String FACE = "int feed 5;boolean end 1;int road 0;int fault 1;int has 1;int letter 3;int tunnel 2;"
        + "int holder 2;int score 1;int likely 2;int holds 3;int made 2;int worth 3;int tired 4;int alone 3;int on 3;int rest 2;"
        + "int hidden 3;int pace 3;int whom 3;int faces 1;int fit 1;int drive 1;int pause 0;int believe 3;int give 2;"
        + "boolean undo 0;boolean seed 1;int kept 2;int image 0;int octet 1;boolean goOn 0;int status 1";

    public static void main(String[] args) throws Exception {
        methods();
        constants();
        inside();
        String text = Files.readString(Path.of("src/main/java/BreathRoad.java"), StandardCharsets.ISO_8859_1);
        CHECK.due("plain signs alone", text.chars().allMatch(c -> c == 10 || c >= 32 && c < 127), true);
        CHECK.finish();
    }

    private static void methods() {
        Class<?> c = BreathRoad.class;
        CHECK.due("public final", c.getModifiers() == (Modifier.PUBLIC | Modifier.FINAL), true);
        Constructor<?>[] constructors = c.getDeclaredConstructors();
        CHECK.due("one constructor", constructors.length, 1);
        CHECK.due("it is public", Modifier.isPublic(constructors[0].getModifiers()), true);
        CHECK.due("it takes nothing", constructors[0].getParameterCount(), 0);
        Set<String> got = new TreeSet<>();
        for (Method m : c.getDeclaredMethods()) {
            if (Modifier.isPublic(m.getModifiers())) {
                got.add(m.getReturnType() + " " + m.getName() + " " + m.getParameterCount());
                CHECK.due(m + " is nothing but public", m.getModifiers(), Modifier.PUBLIC);
                CHECK.due(m + " takes int alone", Arrays.stream(m.getParameterTypes()).allMatch(t -> t == int.class), true);
            } else {
                CHECK.due(m + " is private", Modifier.isPrivate(m.getModifiers()), true);
            }
        }
        CHECK.due("the face " + got, got.equals(new TreeSet<>(Set.of(FACE.split(";")))), true);
    }

    private static void constants() throws IllegalAccessException {
        Set<String> got = new TreeSet<>();
        for (Field f : BreathRoad.class.getDeclaredFields()) {
            if (!Modifier.isPrivate(f.getModifiers())) {
                got.add(Modifier.toString(f.getModifiers()) + " " + f.getType() + " " + f.getName() + " " + f.getInt(null));
            }
        }
        Set<String> want = Set.of("public static final int NONE -1", "public static final int NOTHING -1000000000");
        CHECK.due("the constants " + got, got.equals(want), true);
    }

    private static void inside() {
        Class<?>[] classes = BreathRoad.class.getDeclaredClasses();
        String seen = Arrays.stream(classes).filter(c -> !Modifier.isPrivate(c.getModifiers())).map(Class::getName)
            .collect(Collectors.joining(" "));
        CHECK.due("classes inside that are not private: " + seen, seen.isEmpty(), true);
    }
}
