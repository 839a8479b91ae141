import java.io.IOException;
import java.lang.reflect.Field;
import java.lang.reflect.Method;
import java.lang.reflect.Modifier;
import java.nio.file.Files;
import java.nio.file.Path;
import java.util.Arrays;
import java.util.Map;
import java.util.Set;
import java.util.TreeMap;
import java.util.TreeSet;
import java.util.regex.Matcher;
import java.util.regex.Pattern;

/** The rules of LANGUAGE.md that can be seen in the source text and in the compiled class. */
public final class LanguageTest {
    private static final Set<String> FACE = new TreeSet<>(Arrays.asList("boolean program(int)", "int step(int, int)",
        "int act(int, int, int)", "boolean limit(int, int)", "boolean floor(int, int)", "int go(int)", "int fall(int)",
        "int told(int, int)", "int register(int)", "int holds(int, int)", "int value(int, int)", "int done(int)",
        "int log(int, int)", "int count(int)"));

    public static void main(String[] args) throws IOException {
        String source = Files.readString(Path.of("src/main/java/ActHouse.java"));
        String code = source.replaceAll("(?s)/\\*.*?\\*/", " ").replaceAll("//[^\n]*", " ");
        theFace();
        classesInside();
        wordsThatMustNotStand(code);
        methodsAreShort(source);
        callsGoEightDeep(code);
        Due.end("LanguageTest");
    }

    private static String headOf(Method method) {
        StringBuilder head = new StringBuilder(method.getReturnType() + " " + method.getName() + "(");
        for (Class<?> type : method.getParameterTypes()) {
            head.append(head.charAt(head.length() - 1) == '(' ? "" : ", ").append(type);
        }
        return head.append(")").toString();
    }

    private static void theFace() {
        Set<String> open = new TreeSet<>();
        Set<String> openNames = new TreeSet<>();
        for (Method method : ActHouse.class.getDeclaredMethods()) {
            if (Modifier.isPublic(method.getModifiers())) {
                open.add(headOf(method));
                openNames.add(method.getName());
            }
        }
        Due.same("the face " + open, open.equals(FACE), true);
        for (Method method : ActHouse.class.getDeclaredMethods()) {
            int modifiers = method.getModifiers();
            if (!Modifier.isPublic(modifiers)) {
                Due.same(method.getName() + " is private", Modifier.isPrivate(modifiers), true);
                Due.same(method.getName() + " is no name of the face", openNames.contains(method.getName()), false);
            }
            Due.same(method.getName() + " takes seven at most", method.getParameterCount() <= 7, true);
        }
        for (Field field : ActHouse.class.getDeclaredFields()) {
            int modifiers = field.getModifiers();
            Due.same(field.getName() + " is private", Modifier.isPrivate(modifiers), !field.getName().equals("NONE"));
        }
        Due.same("final", Modifier.isFinal(ActHouse.class.getModifiers()), true);
        Due.same("one constructor", ActHouse.class.getDeclaredConstructors().length, 1);
    }

    private static void classesInside() {
        Class<?>[] inside = ActHouse.class.getDeclaredClasses();
        Due.same("twelve classes at most", inside.length < 12, true);
        fieldsOf(ActHouse.class);
        for (Class<?> one : inside) {
            Due.same(one + " is static", Modifier.isStatic(one.getModifiers()), true);
            fieldsOf(one);
        }
    }

    private static void fieldsOf(Class<?> one) {
        int many = 0;
        for (Field field : one.getDeclaredFields()) {
            boolean isStatic = Modifier.isStatic(field.getModifiers());
            many += isStatic ? 0 : 1;
            Due.same(field + " if static is final", !isStatic || Modifier.isFinal(field.getModifiers()), true);
        }
        Due.same(one + " has twenty fields at most, not " + many, many <= 20, true);
    }

    private static void wordsThatMustNotStand(String code) {
        String[] words = {"throw", "throws", "try", "catch", "synchronized", "assert", "package", "protected", "->", "::",
            "Exact\\(", "static \\{", "Object", "hashCode", "toString", "currentTimeMillis", "nanoTime", "Random",
            "volatile", "native", "transient"};
        for (String word : words) {
            boolean letters = Character.isLetter(word.charAt(0));
            Matcher matcher = Pattern.compile(letters ? "\\b" + word : word).matcher(code);
            Due.same("'" + word + "' stands in the source", matcher.find(), false);
        }
        Matcher imports = Pattern.compile("import ([^;]*);").matcher(code);
        while (imports.find()) {
            Due.same("import " + imports.group(1), imports.group(1).equals("java.util.Arrays"), true);
        }
        for (char letter : code.toCharArray()) {
            Due.same("character " + (int) letter, letter < 256, true);
        }
    }

    private static void methodsAreShort(String source) {
        String[] lines = source.split("\n");
        int[] start = {-1, -1};
        for (int i = 0; i < lines.length; i++) {
            for (int depth = 0; depth < 2; depth++) {
                String indent = " {" + (depth * 4 + 4) + "}";
                if (lines[i].matches(indent + "(?!if|for|while|switch|\\})[A-Za-z].*\\) \\{")) {
                    start[depth] = i;
                } else if (lines[i].matches(indent + "\\}") && start[depth] >= 0) {
                    Due.same("lines of the method at " + (start[depth] + 1), i - start[depth] <= 60, true);
                    start[depth] = -1;
                }
            }
            Due.same("width of line " + (i + 1), lines[i].length() <= 120, true);
        }
    }

    /** Rule 11: names stand for methods here, so two of one name would count as one; there is no such pair. */
    private static void callsGoEightDeep(String code) {
        Map<String, String> bodies = new TreeMap<>();
        Matcher heads = Pattern.compile("(?m)^( {4}| {8})(?:[\\w\\[\\]]+ )*(\\w+)\\([^()]*\\) \\{$").matcher(code);
        while (heads.find()) {
            if (!heads.group(2).matches("if|for|while|switch")) {
                int end = code.indexOf("\n" + heads.group(1) + "}", heads.end());
                String before = bodies.put(heads.group(2), code.substring(heads.end(), end));
                Due.same("two methods are called " + heads.group(2), before != null, false);
            }
        }
        Due.same("methods are found", bodies.size() > FACE.size(), true);
        for (String name : bodies.keySet()) {
            int depth = depthFrom(name, bodies, 1);
            Due.same("calls from " + name + " on go " + depth + " deep", depth <= 8, true);
        }
    }

    private static int depthFrom(String name, Map<String, String> bodies, int depth) {
        int deepest = depth;
        Matcher calls = Pattern.compile("\\b(\\w+)\\(").matcher(bodies.get(name));
        while (calls.find() && depth <= 8) {
            boolean own = bodies.containsKey(calls.group(1));
            boolean library = calls.group(1).matches("copyOf|fill|arraycopy|min");
            deepest = Math.max(deepest, own ? depthFrom(calls.group(1), bodies, depth + 1) : library ? depth + 1 : depth);
        }
        return deepest;
    }
}
