import java.io.IOException;
import java.lang.reflect.Constructor;
import java.lang.reflect.Field;
import java.lang.reflect.Method;
import java.lang.reflect.Modifier;
import java.nio.file.Files;
import java.nio.file.Path;
import java.util.Set;
import java.util.TreeSet;
import java.util.regex.Matcher;
import java.util.regex.Pattern;

/** The class has the document's face and no more, and keeps clear of what LANGUAGE.md forbids. */
public final class FaceTest {
    private static final Set<String> FACE = Set.of(
            "int begin()", "boolean event(int)", "void clear()", "int length(int)",
            "int at(int,int)", "int relation(int,int)", "int mine()", "int place(int,int)",
            "boolean ends(int,int)", "void reset()", "int places(int)", "int inputs(int,int)",
            "int outputs(int,int)", "boolean fits(int,int)", "int markings(int)", "int sound(int)",
            "int shape(int)", "int play(long)", "boolean same()");

    private static final String[] FORBIDDEN = {
        "\\bthrow\\b", "\\bthrows\\b", "\\btry\\b", "\\bcatch\\b", "\\bsynchronized\\b",
        "\\bassert\\b", "->", "::", "\\bprotected\\b", "\\bpackage\\b", "\\bstatic\\s*\\{",
        "\\bRandom\\b", "\\bSystem\\b(?!\\.arraycopy)", "\\bThread\\b", "Exact\\b",
        "\\bimport\\b(?! java\\.util\\.(Arrays|ArrayList|List|Iterator);)"};

    private FaceTest() {
    }

    public static void main(String[] args) throws IOException {
        face();
        constants();
        nothingElseToBeSeen();
        source();
        Check.end();
    }

    private static void face() {
        int modifiers = FootprintNet.class.getModifiers();
        Check.holds("public and final", Modifier.isPublic(modifiers) && Modifier.isFinal(modifiers));
        Set<String> seen = new TreeSet<>();
        for (Method m : FootprintNet.class.getDeclaredMethods()) {
            if (!Modifier.isPrivate(m.getModifiers())) {
                Check.holds(m + " is public, not static",
                        Modifier.isPublic(m.getModifiers()) && !Modifier.isStatic(m.getModifiers()));
                seen.add(told(m));
            }
        }
        Check.holds("the methods are " + seen, seen.equals(FACE));
    }

    private static String told(Method m) {
        StringBuilder text = new StringBuilder();
        for (Class<?> type : m.getParameterTypes()) {
            text.append(text.length() == 0 ? "" : ",").append(type.getName());
        }
        return m.getReturnType().getName() + " " + m.getName() + "(" + text + ")";
    }

    private static void constants() {
        Check.due("BAD", FootprintNet.BAD, -1);
        Check.due("MANY", FootprintNet.MANY, -2);
        Check.due("WIDE", FootprintNet.WIDE, -3);
        Check.due("DOUBLE", FootprintNet.DOUBLE, -4);
    }

    private static void nothingElseToBeSeen() {
        Set<String> names = Set.of("BAD", "MANY", "WIDE", "DOUBLE");
        for (Field f : FootprintNet.class.getDeclaredFields()) {
            boolean isPrivate = Modifier.isPrivate(f.getModifiers());
            Check.holds(f + " is of the face or private", names.contains(f.getName()) != isPrivate);
        }
        Constructor<?>[] made = FootprintNet.class.getDeclaredConstructors();
        Check.due("constructors", made.length, 1);
        Check.due("parameters of the constructor", made[0].getParameterCount(), 0);
        for (Class<?> inside : FootprintNet.class.getDeclaredClasses()) {
            Check.holds(inside + " is static", Modifier.isStatic(inside.getModifiers()));
            noStaticStateIn(inside);
            for (Method m : inside.getDeclaredMethods()) {
                Check.holds(m + " bears a name of the face", !isNameOfFace(m.getName()));
            }
        }
        for (Method m : FootprintNet.class.getDeclaredMethods()) {
            Check.holds(m + " bears a name of the face",
                    !Modifier.isPrivate(m.getModifiers()) || !isNameOfFace(m.getName()));
        }
        noStaticStateIn(FootprintNet.class);
    }

    private static boolean isNameOfFace(String name) {
        return FACE.stream().anyMatch(told -> told.contains(" " + name + "("));
    }

    private static void noStaticStateIn(Class<?> one) {
        for (Field f : one.getDeclaredFields()) {
            Check.holds(f + " is final if static",
                    !Modifier.isStatic(f.getModifiers()) || Modifier.isFinal(f.getModifiers()));
        }
    }

    private static void source() throws IOException {
        String text = Files.readString(Path.of("src/main/java/FootprintNet.java"));
        String code = text.replaceAll("(?s)/\\*.*?\\*/", " ").replaceAll("//[^\n]*", " ");
        for (String word : FORBIDDEN) {
            Matcher found = Pattern.compile(word).matcher(code);
            Check.holds("no " + word, !found.find());
        }
    }
}
