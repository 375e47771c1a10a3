import java.lang.reflect.Constructor;
import java.lang.reflect.Field;
import java.lang.reflect.Method;
import java.lang.reflect.Modifier;
import java.nio.file.Files;
import java.nio.file.Path;
import java.util.ArrayList;
import java.util.HashSet;
import java.util.List;
import java.util.Set;
import java.util.TreeSet;
import java.util.regex.Matcher;
import java.util.regex.Pattern;

/** The face of DOC.md, and those rules of LANGUAGE.md that can be seen from outside the code. */
public final class FatherListsRules {
    private static final String SOURCE = "src/main/java/FatherLists.java";
    private static final String[] FACE = {
        "int type(long,int)", "int clear()", "int law()", "int list(int)", "int told(int)", "int name(int,int)",
        "int place(int,int)", "int house(int,int,int)", "int held(int)", "int say(int,int)", "int said(int)",
        "int foretold(int,int,int,int)", "int both(int,int,int)", "long orders(int)", "int quarrel(int,int)",
        "int ahead(int,int,int)", "int date(int,int)", "int link(int,int)", "int span(int,int,int)", "int lost(int)",
        "int court(int,int,int)", "int worth(int,int)", "int keep(int)", "int back(int)", "int count(int)",
        "long trace()"};
    private static final String[] CONSTANTS = {"BAD", "STATE", "FULL", "NONE", "NO"};
    private static final String[] FORBIDDEN = {"throw", "throws", "try", "catch", "finally", "synchronized", "assert",
        "System\\.out", "Random", "Thread", "nanoTime", "currentTimeMillis", "getenv", "package"};

    private static int wrong = 0;

    public static void main(String[] args) throws Exception {
        face();
        classesInside();
        source(Files.readString(Path.of(SOURCE)));
        System.out.println(wrong == 0 ? "all rules are kept" : wrong + " rules are broken");
        if (wrong != 0) {
            System.exit(1);
        }
    }

    private static void due(boolean holds, String what) {
        if (!holds) {
            wrong++;
            System.out.println(what);
        }
    }

    private static void face() {
        Class<?> face = FatherLists.class;
        due(Modifier.isPublic(face.getModifiers()) && Modifier.isFinal(face.getModifiers()), "public and final");
        Set<String> open = new TreeSet<>();
        Set<String> openNames = new HashSet<>();
        for (Method m : face.getDeclaredMethods()) {
            if (!Modifier.isPrivate(m.getModifiers())) {
                open.add(shown(m));
                openNames.add(m.getName());
                due(Modifier.isPublic(m.getModifiers()) && !Modifier.isStatic(m.getModifiers()), "no face: " + m);
            }
        }
        due(open.equals(new TreeSet<>(List.of(FACE))), "methods: " + open);
        for (Method m : face.getDeclaredMethods()) {
            due(!Modifier.isPrivate(m.getModifiers()) || !openNames.contains(m.getName()), "bears a public name: " + m);
        }
        Constructor<?>[] made = face.getDeclaredConstructors();
        due(made.length == 1 && Modifier.isPublic(made[0].getModifiers()) && made[0].getParameterCount() == 0,
            "one public constructor");
        Set<String> fields = new TreeSet<>();
        for (Field f : face.getDeclaredFields()) {
            if (!Modifier.isPrivate(f.getModifiers())) {
                fields.add(f.getName());
            }
            due(!Modifier.isStatic(f.getModifiers()) || Modifier.isFinal(f.getModifiers()), "static, not final: " + f);
        }
        due(fields.equals(new TreeSet<>(List.of(CONSTANTS))), "constants: " + fields);
    }

    private static String shown(Method m) {
        List<String> of = new ArrayList<>();
        for (Class<?> p : m.getParameterTypes()) {
            of.add(p.getName());
        }
        return m.getReturnType().getName() + " " + m.getName() + "(" + String.join(",", of) + ")";
    }

    private static void classesInside() {
        Class<?>[] inside = FatherLists.class.getDeclaredClasses();
        due(inside.length <= 11, "twelve classes at most");
        List<Class<?>> all = new ArrayList<>(List.of(inside));
        all.add(FatherLists.class);
        for (Class<?> c : all) {
            int fields = 0;
            for (Field f : c.getDeclaredFields()) {
                fields += Modifier.isStatic(f.getModifiers()) ? 0 : 1;
            }
            due(fields <= 20, "twenty fields at most: " + c);
            for (Method m : c.getDeclaredMethods()) {
                due(m.getParameterCount() <= 7, "seven parameters at most: " + m);
            }
        }
        for (Class<?> c : inside) {
            due(Modifier.isStatic(c.getModifiers()), "not static: " + c);
        }
    }

    private static void source(String text) {
        String code = text.replaceAll("(?s)/\\*.*?\\*/", "").replaceAll("//[^\n]*", "");
        for (String word : FORBIDDEN) {
            due(!Pattern.compile("\\b" + word + "\\b").matcher(code).find(), "has " + word);
        }
        due(!code.contains("->") && !code.contains("::"), "lambda or method reference");
        Matcher imports = Pattern.compile("import ([^;]+);").matcher(code);
        while (imports.find()) {
            due(imports.group(1).equals("java.util.Arrays"), "imports " + imports.group(1));
        }
        int longest = 0;
        int from = 0;
        String[] lines = text.split("\n");
        for (int k = 0; k < lines.length; k++) {
            if (lines[k].isBlank()) {
                from = k;
            }
            longest = Math.max(longest, k - from);
        }
        due(longest <= 60, "a method of more than sixty lines");
        for (int k = 0; k < text.length(); k++) {
            due(text.charAt(k) < 127, "a sign above 126 at " + k);
        }
    }
}
