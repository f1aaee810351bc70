import java.io.IOException;
import java.lang.reflect.Constructor;
import java.lang.reflect.Field;
import java.lang.reflect.Method;
import java.lang.reflect.Modifier;
import java.nio.file.Files;
import java.nio.file.Path;
import java.util.ArrayList;
import java.util.Arrays;
import java.util.List;
import java.util.TreeSet;
import java.util.regex.Pattern;

/** What of LANGUAGE.md and of the public face a program can look at. */
public final class LanguageTest {
    private static final Path SOURCE = Path.of("src/main/java/RingBases.java");
    private static final List<String> FACE = List.of(
            "int base(int, int)", "int put(int, int, int)", "int deed(int, int, int, int)", "int drift(int, int)",
            "int undo()", "int told(int)", "int shelf(int, int)", "int figure(int, int)", "int compare(int, int)",
            "int beside(int)", "long norm(int)", "int feed(int)", "int clear()", "int normal(int)", "int next(int)",
            "int one(int)", "int read(int)", "int write(int)", "int keep(int)", "int goBack(int)");
    private static final List<String> WORDS_RULED_OUT = List.of(
            "throw", "throws", "try", "catch", "finally", "synchronized", "assert", "import", "package", "protected",
            "volatile", "native", "Thread", "Random", "Object", "Exception", "->", "::", "@", "Math.sqrt", "Exact");
    private static final Due due = new Due("LanguageTest");

    public static void main(String[] args) throws IOException {
        face();
        constants();
        membersAreHidden();
        classesInside();
        source();
        due.finish();
    }

    private static String told(Method method) {
        StringBuilder parameters = new StringBuilder();
        for (Class<?> type : method.getParameterTypes()) {
            parameters.append(parameters.length() > 0 ? ", " : "").append(type.getSimpleName());
        }
        return method.getReturnType().getSimpleName() + " " + method.getName() + "(" + parameters + ")";
    }

    private static void face() {
        List<String> found = new ArrayList<>();
        for (Method method : RingBases.class.getDeclaredMethods()) {
            if (Modifier.isPublic(method.getModifiers())) {
                found.add(told(method));
                due.holds("no static call: " + method, !Modifier.isStatic(method.getModifiers()));
            }
        }
        due.holds("the face is " + found, new TreeSet<>(found).equals(new TreeSet<>(FACE)));
        due.holds("public and final", Modifier.isPublic(RingBases.class.getModifiers())
                && Modifier.isFinal(RingBases.class.getModifiers()));
        Constructor<?>[] constructors = RingBases.class.getDeclaredConstructors();
        due.is("one constructor", constructors.length, 1);
        due.holds("it is public", Modifier.isPublic(constructors[0].getModifiers()));
        due.is("it takes nothing", constructors[0].getParameterCount(), 0);
    }

    private static void constants() {
        due.is("NONE", RingBases.NONE, -1);
        due.is("UNKNOWN", RingBases.UNKNOWN, -2000000001);
        due.is("OUTSIDE", RingBases.OUTSIDE, -2000000002);
        due.is("NOT", RingBases.NOT, -2000000003);
        due.is("FULL", RingBases.FULL, -2000000004);
    }

    private static void membersAreHidden() {
        List<String> publicNames = new ArrayList<>();
        for (Method method : RingBases.class.getDeclaredMethods()) {
            if (Modifier.isPublic(method.getModifiers())) {
                publicNames.add(method.getName());
            }
        }
        for (Method method : RingBases.class.getDeclaredMethods()) {
            if (!Modifier.isPublic(method.getModifiers())) {
                due.holds("private: " + method, Modifier.isPrivate(method.getModifiers()));
                due.holds("a name of its own: " + method, !publicNames.contains(method.getName()));
            }
        }
        List<String> publicFields = Arrays.asList("NONE", "UNKNOWN", "OUTSIDE", "NOT", "FULL");
        for (Field field : RingBases.class.getDeclaredFields()) {
            boolean isFace = publicFields.contains(field.getName());
            due.holds("hidden as it should be: " + field,
                    isFace ? Modifier.isPublic(field.getModifiers()) : Modifier.isPrivate(field.getModifiers()));
        }
    }

    private static void classesInside() {
        List<Class<?>> all = new ArrayList<>(List.of(RingBases.class.getDeclaredClasses()));
        for (Class<?> inside : all) {
            due.holds("static: " + inside, Modifier.isStatic(inside.getModifiers()));
            due.holds("not public: " + inside, !Modifier.isPublic(inside.getModifiers()));
        }
        all.add(RingBases.class);
        due.holds("at most twelve classes", all.size() <= 12);
        for (Class<?> one : all) {
            int fields = 0;
            for (Field field : one.getDeclaredFields()) {
                if (Modifier.isStatic(field.getModifiers())) {
                    due.holds("final: " + field, Modifier.isFinal(field.getModifiers()));
                } else {
                    fields++;
                }
            }
            due.holds("at most twenty fields: " + one, fields <= 20);
            for (Method method : one.getDeclaredMethods()) {
                due.holds("at most seven parameters: " + method, method.getParameterCount() <= 7);
            }
        }
    }

    private static void source() throws IOException {
        String text = Files.readString(SOURCE);
        for (int i = 0; i < text.length(); i++) {
            if (text.charAt(i) > 127) {
                due.holds("only plain signs in the source, at " + i, false);
            }
        }
        String code = text.replaceAll("(?s)/\\*.*?\\*/", " ").replaceAll("//[^\n]*", " ");
        for (String word : WORDS_RULED_OUT) {
            String edge = Character.isLetter(word.charAt(0)) ? "\\b" : "";
            String regex = word.equals("Exact") ? "Exact\\b" : edge + Pattern.quote(word) + edge;
            due.holds("not in the source: " + word, !Pattern.compile(regex).matcher(code).find());
        }
    }
}
