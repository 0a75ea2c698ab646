import java.io.IOException;
import java.lang.reflect.Constructor;
import java.lang.reflect.Field;
import java.lang.reflect.Method;
import java.lang.reflect.Modifier;
import java.nio.file.Files;
import java.nio.file.Path;
import java.util.ArrayList;
import java.util.List;
import java.util.Set;
import java.util.TreeSet;
import java.util.regex.Matcher;
import java.util.regex.Pattern;
import java.util.stream.Stream;

/** The class has the document's face and no more, and keeps clear of what LANGUAGE.md forbids. */
public final class FaceTest {
    private static final Set<String> FACE = Set.of(
            "int begin()", "boolean event(int)", "void clear()", "int length(int)",
            "int at(int,int)", "int relation(int,int)", "int mine()", "int place(int,int)",
            "boolean ends(int,int)", "void reset()", "int places(int)", "int inputs(int,int)",
            "int outputs(int,int)", "boolean fits(int,int)", "int markings(int)", "int sound(int)",
            "int shape(int)", "int play(long)", "boolean same()");

    private static final String[] FORBIDDEN = {
        "\\bthrow\\b", "\\bthrows\\b", "\\btry\\b", "\\bcatch\\b", "\\bsynchronized\\b",
        "\\bassert\\b", "->", "::", "\\bprotected\\b", "\\bpackage\\b", "\\bstatic\\s*\\{",
        "\\bRandom\\b", "\\bSystem\\b(?!\\.arraycopy)", "\\bThread\\b", "Exact\\b",
        "\\bimport\\b(?! java\\.util\\.(Arrays|ArrayList|List|Iterator);)"};

    private static final int MOST_CLASSES = 12;
    private static final int MOST_FIELDS = 20;
    private static final int MOST_PARAMETERS = 7;
    private static final int MOST_LINES = 60;

    /** Where a method or, if it has no type before its name, a constructor begins. */
    private static final Pattern HEAD = Pattern.compile(
            "^ {4,8}(?:(?:public|private|static) )*((?:int|long|boolean|void|[A-Z]\\w*) )?\\w+\\([^;]*\\{$");

    private FaceTest() {
    }

    public static void main(String[] args) throws IOException, ReflectiveOperationException {
        face();
        constants();
        nothingElseToBeSeen();
        sizes();
        source();
        objectsAreMadeInConstructors();
        Check.end();
    }

    private static void face() {
        int modifiers = FootprintNet.class.getModifiers();
        Check.holds("public and final", Modifier.isPublic(modifiers) && Modifier.isFinal(modifiers));
        Set<String> seen = new TreeSet<>();
        for (Method m : FootprintNet.class.getDeclaredMethods()) {
            if (!Modifier.isPrivate(m.getModifiers())) {
                Check.holds(m + " is public, not static",
                        Modifier.isPublic(m.getModifiers()) && !Modifier.isStatic(m.getModifiers()));
                seen.add(told(m));
            }
        }
        Check.holds("the methods are " + seen, seen.equals(FACE));
    }

    private static String told(Method m) {
        StringBuilder text = new StringBuilder();
        for (Class<?> type : m.getParameterTypes()) {
            text.append(text.length() == 0 ? "" : ",").append(type.getName());
        }
        return m.getReturnType().getName() + " " + m.getName() + "(" + text + ")";
    }

    private static void constants() throws ReflectiveOperationException {
        constant("BAD", -1);
        constant("MANY", -2);
        constant("WIDE", -3);
        constant("DOUBLE", -4);
    }

    private static void constant(String name, int due) throws ReflectiveOperationException {
        Field f = FootprintNet.class.getDeclaredField(name);
        Check.holds(f + " is public static final int", f.getType() == int.class
                && f.getModifiers() == (Modifier.PUBLIC | Modifier.STATIC | Modifier.FINAL));
        Check.due(name, f.getInt(null), due);
    }

    private static void nothingElseToBeSeen() {
        Set<String> names = Set.of("BAD", "MANY", "WIDE", "DOUBLE");
        for (Field f : FootprintNet.class.getDeclaredFields()) {
            boolean isPrivate = Modifier.isPrivate(f.getModifiers());
            Check.holds(f + " is of the face or private", names.contains(f.getName()) != isPrivate);
        }
        Constructor<?>[] made = FootprintNet.class.getDeclaredConstructors();
        Check.due("constructors", made.length, 1);
        Check.due("parameters of the constructor", made[0].getParameterCount(), 0);
        Check.holds("the constructor is public", Modifier.isPublic(made[0].getModifiers()));
        for (Class<?> inside : FootprintNet.class.getDeclaredClasses()) {
            Check.holds(inside + " is static", Modifier.isStatic(inside.getModifiers()));
            Check.holds(inside + " is private or package-visible",
                    (inside.getModifiers() & (Modifier.PUBLIC | Modifier.PROTECTED)) == 0);
            noStaticStateIn(inside);
            for (Method m : inside.getDeclaredMethods()) {
                Check.holds(m + " bears a name of the face", !isNameOfFace(m.getName()));
            }
        }
        for (Method m : FootprintNet.class.getDeclaredMethods()) {
            Check.holds(m + " bears a name of the face",
                    !Modifier.isPrivate(m.getModifiers()) || !isNameOfFace(m.getName()));
        }
        noStaticStateIn(FootprintNet.class);
    }

    private static boolean isNameOfFace(String name) {
        return FACE.stream().anyMatch(told -> told.contains(" " + name + "("));
    }

    private static void noStaticStateIn(Class<?> one) {
        for (Field f : one.getDeclaredFields()) {
            Check.holds(f + " is final if static",
                    !Modifier.isStatic(f.getModifiers()) || Modifier.isFinal(f.getModifiers()));
        }
    }

    private static void sizes() {
        List<Class<?>> all = new ArrayList<>(List.of(FootprintNet.class.getDeclaredClasses()));
        all.add(FootprintNet.class);
        Check.holds(all.size() + " classes", all.size() <= MOST_CLASSES);
        for (Class<?> one : all) {
            long fields = Stream.of(one.getDeclaredFields())
                    .filter(f -> !Modifier.isStatic(f.getModifiers())).count();
            Check.holds(fields + " fields in " + one, fields <= MOST_FIELDS);
            for (Method m : one.getDeclaredMethods()) {
                Check.holds("parameters of " + m, m.getParameterCount() <= MOST_PARAMETERS);
            }
        }
    }

    /** Without its comments. */
    private static String code() throws IOException {
        String text = Files.readString(Path.of("src/main/java/FootprintNet.java"));
        return text.replaceAll("(?s)/\\*.*?\\*/", " ").replaceAll("//[^\n]*", " ");
    }

    private static void source() throws IOException {
        String code = code();
        for (String word : FORBIDDEN) {
            Matcher found = Pattern.compile(word).matcher(code);
            Check.holds("no " + word, !found.find());
        }
    }

    /** What a call would make is counted in every run, so a method makes nothing. */
    private static void objectsAreMadeInConstructors() throws IOException {
        boolean inConstructor = false;
        int lines = 0;
        for (String line : code().split("\n")) {
            Matcher head = HEAD.matcher(line);
            if (head.find()) {
                inConstructor = head.group(1) == null;
                lines = 0;
            }
            lines++;
            Check.holds("not too long a method: " + line, lines <= MOST_LINES);
            Check.holds("made in a constructor: " + line, inConstructor || !line.contains("new "));
        }
    }
}
