import java.io.IOException;
import java.lang.reflect.Method;
import java.lang.reflect.Modifier;
import java.nio.file.Files;
import java.nio.file.Path;
import java.util.ArrayList;
import java.util.List;
import java.util.regex.Matcher;
import java.util.regex.Pattern;
import java.util.stream.Stream;

/** README.md tells every call and every test, and its example answers what it says. */
public final class ReadmeTest {
    private static final Pattern EXAMPLE =
            Pattern.compile("^x\\.(\\w+)\\(([^)]*)\\);\\s*// (-?\\w+)", Pattern.MULTILINE);

    private ReadmeTest() {
    }

    public static void main(String[] args) throws IOException, ReflectiveOperationException {
        String readme = Files.readString(Path.of("README.md"));
        everyCallIsTold(readme);
        everyTestIsTold(readme);
        theExampleHolds(readme);
        Check.end();
    }

    private static void everyCallIsTold(String readme) {
        for (Method m : FootprintNet.class.getDeclaredMethods()) {
            if (Modifier.isPublic(m.getModifiers())) {
                String told = "`" + m.getReturnType().getName() + " " + m.getName() + "(";
                Check.holds("README.md tells " + m, readme.contains(told));
            }
        }
        for (String name : List.of("BAD = -1", "MANY = -2", "WIDE = -3", "DOUBLE = -4")) {
            Check.holds("README.md tells " + name, readme.contains("`" + name + "`"));
        }
        Check.holds("README.md tells how the tests are run", readme.contains("`.ci/run`"));
    }

    private static void everyTestIsTold(String readme) throws IOException {
        try (Stream<Path> files = Files.list(Path.of("src/test/java"))) {
            for (Path file : files.toList()) {
                String name = file.getFileName().toString().replace(".java", "");
                Check.holds("README.md tells " + name, readme.contains("`" + name + "`"));
            }
        }
    }

    private static void theExampleHolds(String readme) throws ReflectiveOperationException {
        FootprintNet x = new FootprintNet();
        Matcher line = EXAMPLE.matcher(readme);
        int lines = 0;
        while (line.find()) {
            lines++;
            String got = String.valueOf(answer(x, line.group(1), line.group(2)));
            Check.holds("README.md: " + line.group() + ", the answer is " + got, got.equals(line.group(3)));
        }
        Check.holds("README.md has an example", lines >= 10);
    }

    private static Object answer(FootprintNet x, String name, String told) throws ReflectiveOperationException {
        for (Method m : FootprintNet.class.getDeclaredMethods()) {
            if (m.getName().equals(name) && Modifier.isPublic(m.getModifiers())) {
                return m.invoke(x, argumentsOf(m, told));
            }
        }
        return "no such call";
    }

    private static Object[] argumentsOf(Method m, String told) {
        List<Object> arguments = new ArrayList<>();
        for (String one : told.isEmpty() ? new String[0] : told.split(", ")) {
            if (m.getParameterTypes()[arguments.size()] == long.class) {
                arguments.add(Long.parseLong(one.replace("L", "")));
            } else {
                arguments.add(Integer.parseInt(one));
            }
        }
        return arguments.toArray();
    }
}
