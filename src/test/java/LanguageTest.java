import java.io.IOException;
import java.lang.reflect.Constructor;
import java.lang.reflect.Field;
import java.lang.reflect.Method;
import java.lang.reflect.Modifier;
import java.nio.file.Files;
import java.nio.file.Path;
import java.util.Arrays;
import java.util.List;
import java.util.Map;
import java.util.Set;
import java.util.TreeMap;
import java.util.TreeSet;
import java.util.regex.Matcher;
import java.util.regex.Pattern;

/** The rules of LANGUAGE.md as far as the face and the text of the class show them. */
public final class LanguageTest {
    private static final Path SOURCE = Path.of("src/main/java/AlignedRuns.java");
    private static final Path DOCUMENT = Path.of("../shared/DOC.md");
    private static final int LONGEST_METHOD = 60;
    private static final int DEEPEST = 8;

    public static void main(String[] args) throws IOException {
        String code = withoutComments(Files.readString(SOURCE));
        face(Files.readString(DOCUMENT));
        words(code);
        classes();
        methodLengths(code);
        Map<String, Set<String>> calls = callsOfMethods(code);
        depths(calls);
        recursion(calls);
        Check.end("LanguageTest");
    }

    private static String withoutComments(String text) {
        return text.replaceAll("(?s)/\\*.*?\\*/", "").replaceAll("//[^\n]*", "");
    }

    /** Rule 1: just the document's members, with just its exceptions. */
    private static void face(String document) {
        String block = document.substring(document.indexOf("public final class AlignedRuns"));
        block = block.substring(0, block.indexOf("```"));
        Set<String> due = new TreeSet<>();
        Matcher line = Pattern.compile("public (int|boolean) (\\w+)\\(([^)]*)\\)( throws ([^;]*))?;").matcher(block);
        while (line.find()) {
            String types = line.group(3).isEmpty() ? "" : line.group(3).replaceAll("(int) \\w+", "$1").replace(" ", "");
            String thrown = line.group(5) == null ? "" : line.group(5).replace(" ", "");
            due.add(line.group(1) + " " + line.group(2) + "(" + types + ") " + thrown);
        }
        Set<String> there = new TreeSet<>();
        for (Method method : AlignedRuns.class.getDeclaredMethods()) {
            if (!Modifier.isPrivate(method.getModifiers())) {
                there.add(method.getReturnType() + " " + method.getName() + "(" + names(method.getParameterTypes()) + ") "
                    + names(method.getExceptionTypes()));
            }
        }
        Check.due("methods of the face", due.toString(), there.toString());
        Check.due("there are methods", 41, due::size);
        for (Field field : AlignedRuns.class.getDeclaredFields()) {
            boolean free = Modifier.isPrivate(field.getModifiers()) || field.getName().equals("NONE");
            Check.due("field " + field.getName() + " is private", true, () -> free);
            Check.due("static field " + field.getName() + " is final", true,
                () -> !Modifier.isStatic(field.getModifiers()) || Modifier.isFinal(field.getModifiers()));
        }
        Constructor<?>[] made = AlignedRuns.class.getDeclaredConstructors();
        Check.due("constructors", 1, () -> made.length);
        Check.due("the class is public and final", true,
            () -> Modifier.isPublic(AlignedRuns.class.getModifiers()) && Modifier.isFinal(AlignedRuns.class.getModifiers()));
    }

    private static String names(Class<?>[] types) {
        return String.join(",", Arrays.stream(types).map(Class::getSimpleName).toList());
    }

    /** Rules 2 to 6, 10, 12, 13: what may not stand in the text at all. */
    private static void words(String code) {
        for (String banned : List.of("->", "::", "package ", "synchronized", "assert ", "finally", "catch", "try {", "instanceof",
                "System.nanoTime", "System.currentTimeMillis", "System.out", "Random", "Thread", "Exact(", "float ", "double ",
                "static {", "getMessage", "hashCode", "toString", "clone(", "Object ", "var ", "volatile", "transient", "native")) {
            Check.due("'" + banned + "' in the class", false, () -> code.contains(banned));
        }
        Matcher imports = Pattern.compile("import ([^;]*);").matcher(code);
        while (imports.find()) {
            String name = imports.group(1);
            Check.due("import " + name, true, () -> List.of("java.util.NoSuchElementException", "java.util.Arrays").contains(name));
        }
        Matcher library = Pattern.compile("\\b(Integer|Long|Math|System|Arrays)\\.(\\w+)").matcher(code);
        while (library.find()) {
            String name = library.group(1) + "." + library.group(2);
            Check.due("library " + name, true, () -> List.of("Integer.bitCount", "Integer.numberOfTrailingZeros", "Integer.numberOfLeadingZeros",
                "Math.max", "Math.min", "System.arraycopy").contains(name));
        }
        Matcher thrown = Pattern.compile("throw ([^;]*);").matcher(code);
        while (thrown.find()) {
            String statement = thrown.group(1);
            Check.due("throw " + statement, true, () -> statement.matches("new (NoSuchElement|IllegalArgument|IllegalState)Exception\\(\"[^\"]*\"\\)"));
        }
        Check.due("all signs are plain", true, () -> code.chars().allMatch(c -> c == '\n' || c >= 32 && c < 127));
    }

    /** Rules 1, 2 and 11: the classes inside, their fields and parameters; no method bears a name of the face. */
    private static void classes() {
        Set<String> face = new TreeSet<>();
        for (Method method : AlignedRuns.class.getDeclaredMethods()) {
            if (Modifier.isPublic(method.getModifiers())) {
                face.add(method.getName());
            }
        }
        Class<?>[] inside = AlignedRuns.class.getDeclaredClasses();
        Check.due("classes", true, () -> inside.length <= 11);
        for (Class<?> one : inside) {
            Check.due(one + " is private and static", true,
                () -> Modifier.isPrivate(one.getModifiers()) && Modifier.isStatic(one.getModifiers()));
            Check.due(one + " fields", true, () -> one.getDeclaredFields().length <= 20);
            for (Method method : one.getDeclaredMethods()) {
                Check.due(method + " bears a name of the face", false, () -> face.contains(method.getName()));
                Check.due(method + " parameters", true, () -> method.getParameterCount() <= 7);
            }
        }
        for (Method method : AlignedRuns.class.getDeclaredMethods()) {
            Check.due(method + " bears a name of the face", false,
                () -> Modifier.isPrivate(method.getModifiers()) && face.contains(method.getName()));
        }
    }

    /** Rule 11: methods stay short. */
    private static void methodLengths(String code) {
        Matcher head = Pattern.compile("(?m)^( +)[\\w\\[\\] ]*\\w+\\([^;{]*\\)[\\w, ]*\\{$").matcher(code);
        while (head.find()) {
            if (head.group().strip().matches("(if|for|while|switch|else|\\}).*")) {
                continue;
            }
            int end = code.indexOf("\n" + head.group(1) + "}", head.start());
            long lines = code.substring(head.start(), end).lines().count();
            Check.due(head.group().strip() + " is short", true, () -> lines <= LONGEST_METHOD);
        }
    }

    /** Which methods each method names. Methods are told apart by their names alone. */
    private static Map<String, Set<String>> callsOfMethods(String code) {
        Map<String, Set<String>> calls = new TreeMap<>();
        Matcher head = Pattern.compile("(?m)^( +)[\\w\\[\\] ]*?(\\w+)\\([^;{]*\\)[\\w, ]*\\{$").matcher(code);
        while (head.find()) {
            if (head.group().strip().matches("(if|for|while|switch|else|\\}).*")) {
                continue;
            }
            int end = code.indexOf("\n" + head.group(1) + "}", head.start());
            Set<String> called = calls.computeIfAbsent(head.group(2), k -> new TreeSet<>());
            Matcher call = Pattern.compile("\\b([a-z]\\w*)\\(").matcher(code.substring(head.end(), end));
            while (call.find()) {
                called.add(call.group(1));
            }
        }
        return calls;
    }

    /** Rule 11: calls that are no recursion go at most eight deep. */
    private static void depths(Map<String, Set<String>> calls) {
        for (String name : calls.keySet()) {
            int depth = depthOf(name, calls, new TreeSet<>());
            Check.due(name + " goes deep: " + depth, true, () -> depth <= DEEPEST);
        }
    }

    /** Rule 8: of the methods that call themselves outright, only static ones may; there are none such here. */
    private static void recursion(Map<String, Set<String>> calls) {
        for (String name : calls.keySet()) {
            Check.due(name + " calls itself outright", false, () -> calls.get(name).contains(name));
        }
    }

    private static int depthOf(String name, Map<String, Set<String>> calls, Set<String> open) {
        if (!calls.containsKey(name) || open.contains(name)) {
            return 0;
        }
        open.add(name);
        int deepest = 0;
        for (String called : calls.get(name)) {
            deepest = Math.max(deepest, depthOf(called, calls, open));
        }
        open.remove(name);
        return deepest + 1;
    }
}
