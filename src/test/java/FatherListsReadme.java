import java.io.IOException;
import java.lang.reflect.InvocationTargetException;
import java.lang.reflect.Method;
import java.lang.reflect.Modifier;
import java.nio.file.Files;
import java.nio.file.Path;
import java.util.List;
import java.util.Set;
import java.util.TreeSet;
import java.util.regex.Matcher;
import java.util.regex.Pattern;
import java.util.stream.Stream;

/** README.md is right: each call in it answers what stands behind it, and no call and no test is missing there. */
public final class FatherListsReadme {
    private static final Path README = Path.of("README.md");
    private static final Path TESTS = Path.of("src/test/java");
    private static final String NEW_OBJECT = "FatherLists x = new FatherLists();";
    private static final Pattern CALL = Pattern.compile("x\\.(\\w+)\\((.*?)\\);\\s+// (-?\\d+): .+");

    private static final Set<String> shown = new TreeSet<>();
    private static FatherLists x = null;
    private static int wrong = 0;

    private FatherListsReadme() {
    }

    public static void main(String[] args) throws IOException, IllegalAccessException {
        List<String> lines = Files.readAllLines(README);
        runBlocks(lines);
        checkAllCallsAreShown();
        checkAllTestsAreNamed(String.join("\n", lines));
        System.out.println(wrong == 0 ? "README.md is right" : wrong + " faults in README.md");
        if (wrong != 0) {
            System.exit(1);
        }
    }

    private static void runBlocks(List<String> lines) throws IllegalAccessException {
        boolean inBlock = false;
        for (String line : lines) {
            if (line.startsWith("```")) {
                inBlock = line.equals("```java");
            } else if (inBlock) {
                runLine(line.strip());
            }
        }
    }

    private static void runLine(String line) throws IllegalAccessException {
        if (line.equals(NEW_OBJECT)) {
            x = new FatherLists();
            return;
        }
        Matcher call = CALL.matcher(line);
        if (x == null || !call.matches()) {
            fail(line, "is no call with an answer");
            return;
        }
        Method method = methodOf(call.group(1));
        if (method == null) {
            fail(line, "there is no such call");
            return;
        }
        shown.add(method.getName());
        String got = answer(method, call.group(2));
        if (!got.equals(call.group(3))) {
            fail(line, "answered " + got);
        }
    }

    private static String answer(Method method, String written) throws IllegalAccessException {
        String[] parts = written.isEmpty() ? new String[0] : written.split(", ");
        Class<?>[] types = method.getParameterTypes();
        if (parts.length != types.length) {
            return "nothing: it takes " + types.length + " numbers";
        }
        Object[] numbers = new Object[parts.length];
        for (int k = 0; k < parts.length; k++) {
            long number = numberOf(parts[k]);
            if (types[k] == long.class) {
                numbers[k] = number;
            } else {
                numbers[k] = Math.toIntExact(number);
            }
        }
        try {
            return String.valueOf(method.invoke(x, numbers));
        } catch (InvocationTargetException e) {
            return "by throwing " + e.getCause();
        }
    }

    private static long numberOf(String written) {
        if (written.equals("FatherLists.NONE")) {
            return FatherLists.NONE;
        }
        if (written.length() == 3 && written.startsWith("'")) {
            return written.charAt(1);
        }
        return Long.decode(written.endsWith("L") ? written.substring(0, written.length() - 1) : written);
    }

    private static Method methodOf(String name) {
        for (Method method : FatherLists.class.getDeclaredMethods()) {
            if (Modifier.isPublic(method.getModifiers()) && method.getName().equals(name)) {
                return method;
            }
        }
        return null;
    }

    private static void checkAllCallsAreShown() {
        for (Method method : FatherLists.class.getDeclaredMethods()) {
            if (Modifier.isPublic(method.getModifiers()) && !shown.contains(method.getName())) {
                fail(method.getName(), "is shown nowhere");
            }
        }
    }

    private static void checkAllTestsAreNamed(String page) throws IOException {
        try (Stream<Path> tests = Files.list(TESTS)) {
            for (Path test : tests.toList()) {
                String name = test.getFileName().toString().replace(".java", "");
                if (!page.contains("`" + name + "`")) {
                    fail(name, "is named nowhere");
                }
            }
        }
    }

    private static void fail(String what, String how) {
        wrong++;
        System.out.println(what + " -- " + how);
    }
}
