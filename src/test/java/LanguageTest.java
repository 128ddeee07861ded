import java.io.IOException;
import java.lang.reflect.Constructor;
import java.lang.reflect.Field;
import java.lang.reflect.Member;
import java.lang.reflect.Method;
import java.lang.reflect.Modifier;
import java.nio.charset.StandardCharsets;
import java.nio.file.Files;
import java.nio.file.Path;
import java.util.ArrayList;
import java.util.Arrays;
import java.util.List;
import java.util.TreeSet;
import java.util.regex.Pattern;

/** The face of MonthPage, and those rules of ../shared/LANGUAGE.md that can be read off by a machine. */
public final class LanguageTest {
    private static final Due due = new Due();
    private static final String[] FACE = {
        "int setPage(int, int)", "int setWeek(int)", "int setRows(int)", "int week(int, int)", "int type(int)",
        "int clear()", "int load()", "int add(int, int, int, int)", "int drop(int)", "int move(int, int)",
        "int stretch(int, int)", "int settle(int, int, int)", "int entry(int, int)", "int bar(int, int, int)",
        "int shown(int, int)", "int rowOf(int, int)", "int day(int, int)", "int enough()", "int ifRows(int)",
        "int free(int, boolean)", "int bestDay(int)", "int told(int)", "int undo()", "long digest()"};

    public static void main(String[] args) throws IOException {
        face();
        constants();
        namesOfPrivateMethods();
        fewClassesAndFields();
        source(Files.readString(Path.of("src/main/java/MonthPage.java"), StandardCharsets.UTF_8));
        due.end();
    }

    private static void is(String what, boolean holds) {
        due.is(what, holds ? 1 : 0, 1);
    }

    private static String signature(Method m) {
        List<String> types = new ArrayList<>();
        for (Class<?> type : m.getParameterTypes()) {
            types.add(type.getName());
        }
        return m.getReturnType().getName() + " " + m.getName() + "(" + String.join(", ", types) + ")";
    }

    private static void face() {
        TreeSet<String> found = new TreeSet<>();
        for (Method m : MonthPage.class.getDeclaredMethods()) {
            if (Modifier.isPublic(m.getModifiers())) {
                found.add(signature(m));
                is("not static: " + m, !Modifier.isStatic(m.getModifiers()));
            }
            isPublicOrPrivate(m);
        }
        is("the methods of the face: " + found, found.equals(new TreeSet<>(Arrays.asList(FACE))));
        Constructor<?>[] made = MonthPage.class.getDeclaredConstructors();
        is("one constructor", made.length == 1 && made[0].getParameterCount() == 0);
        isPublicOrPrivate(made[0]);
        int m = MonthPage.class.getModifiers();
        is("public and final", Modifier.isPublic(m) && Modifier.isFinal(m));
    }

    private static void constants() {
        TreeSet<String> found = new TreeSet<>();
        for (Field f : MonthPage.class.getDeclaredFields()) {
            isPublicOrPrivate(f);
            if (Modifier.isPublic(f.getModifiers())) {
                found.add(f.getName());
                is("a constant: " + f, Modifier.isStatic(f.getModifiers()) && Modifier.isFinal(f.getModifiers()));
            }
        }
        is("the constants of the face: " + found, found.equals(new TreeSet<>(List.of("BAD", "STATE", "FULL", "NONE"))));
    }

    private static void isPublicOrPrivate(Member m) {
        is("public or private: " + m, Modifier.isPublic(m.getModifiers()) || Modifier.isPrivate(m.getModifiers()));
    }

    private static void namesOfPrivateMethods() {
        TreeSet<String> names = new TreeSet<>();
        for (Method m : MonthPage.class.getMethods()) {
            names.add(m.getName());
        }
        for (Method m : MonthPage.class.getDeclaredMethods()) {
            is("no name of the face: " + m, Modifier.isPublic(m.getModifiers()) || !names.contains(m.getName()));
        }
        for (Class<?> inside : MonthPage.class.getDeclaredClasses()) {
            for (Method m : inside.getDeclaredMethods()) {
                is("no name of the face: " + m, !names.contains(m.getName()));
                is("at most seven parameters: " + m, m.getParameterCount() <= 7);
            }
        }
    }

    private static void fewClassesAndFields() {
        List<Class<?>> all = new ArrayList<>(List.of(MonthPage.class.getDeclaredClasses()));
        is("at most twelve classes", all.size() < 12);
        for (Class<?> inside : all) {
            is("static: " + inside, Modifier.isStatic(inside.getModifiers()));
        }
        all.add(MonthPage.class);
        for (Class<?> c : all) {
            int fields = 0;
            for (Field f : c.getDeclaredFields()) {
                boolean isStatic = Modifier.isStatic(f.getModifiers());
                is("static fields are final: " + f, !isStatic || Modifier.isFinal(f.getModifiers()));
                fields += isStatic ? 0 : 1;
            }
            is("at most twenty fields: " + c, fields <= 20);
        }
    }

    private static void source(String whole) {
        // A comment may tell of what the program must not do.
        String text = whole.replaceAll("(?s)/\\*.*?\\*/", "").replaceAll("//.*", "");
        String[] words = {"throw", "throws", "try", "catch", "synchronized", "assert", "import", "package",
            "equals", "hashCode", "toString", "protected", "Exception", "System", "volatile", "native"};
        for (String word : words) {
            is("no " + word, !Pattern.compile("\\b" + word + "\\b").matcher(text).find());
        }
        is("no lambda, no method reference", !text.contains("->") && !text.contains("::"));
        is("plain signs alone", text.chars().allMatch(c -> c < 128));
        int length = 0;
        for (String line : text.split("\n")) {
            boolean begins = line.matches(" {4,8}[a-z].*\\) \\{");
            length = begins ? 1 : length + 1;
            is("a method of at most sixty lines", !line.matches(" {4,8}\\}") || length <= 60);
            length = line.matches(" {4,8}\\}") ? 0 : length;
        }
    }
}
