import java.io.IOException;
import java.lang.reflect.Constructor;
import java.lang.reflect.Field;
import java.lang.reflect.Method;
import java.lang.reflect.Modifier;
import java.nio.file.Files;
import java.nio.file.Path;
import java.util.ArrayList;
import java.util.List;
import java.util.TreeSet;
import java.util.regex.Matcher;
import java.util.regex.Pattern;

/** The face of the document, and those rules of LANGUAGE.md that can be read off the class or its text. */
public final class LanguageTest {
    private static final List<String> FACE = List.of("int type(int)", "int clear()", "int house()",
            "int room(int,int)", "int flock(int,int)", "int now(int)", "int step()", "int drives(int,int)",
            "int puts(int)", "int calls(int)", "int dawn()", "int undo()", "int back(int)", "int homing()",
            "int apart(int)", "int odds(int,int,int)", "int tells(int,int)", "int forget()", "int can(int)",
            "int ask()", "int rate(int,int)", "int keep(int)", "int again(int)", "int count(int)", "long trace()");
    private static final List<String> FORBIDDEN = List.of("throw", "throws", "try", "catch", "finally",
            "synchronized", "assert", "protected", "native", "volatile", "transient", "strictfp", "package",
            "hashCode", "Object", "Objects", "Random", "Thread", "Exception", "Double", "Float", "Character");
    private static final List<String> IMPORTS = List.of("java.util.ArrayList", "java.util.Arrays",
            "java.util.Iterator", "java.util.List");
    private static final List<String> OF_ARRAYS = List.of("copyOf", "copyOfRange", "fill");
    private static int wrong = 0;

    public static void main(String[] args) throws IOException {
        String source = Files.readString(Path.of(args[0]));
        face();
        classes();
        words(source);
        methodLengths(source);
        System.out.println("LanguageTest: " + wrong + " faults");
        if (wrong != 0) {
            System.exit(1);
        }
    }

    private static void hold(boolean fine, String rule) {
        if (!fine) {
            wrong++;
            System.out.println("LanguageTest: " + rule);
        }
    }

    private static void face() {
        TreeSet<String> found = new TreeSet<>();
        TreeSet<String> names = new TreeSet<>();
        for (Method method : PlushFlocks.class.getDeclaredMethods()) {
            if (!Modifier.isPrivate(method.getModifiers())) {
                StringBuilder parameters = new StringBuilder();
                for (Class<?> parameter : method.getParameterTypes()) {
                    parameters.append(parameters.length() == 0 ? "" : ",").append(parameter.getName());
                }
                found.add(method.getReturnType().getName() + " " + method.getName() + "(" + parameters + ")");
                names.add(method.getName());
            }
        }
        hold(found.equals(new TreeSet<>(FACE)), "the face is " + found);
        for (Class<?> one : allClasses()) {
            for (Method method : one.getDeclaredMethods()) {
                hold(!Modifier.isPrivate(method.getModifiers()) || !names.contains(method.getName()),
                        one + ": a private one has a public one's name: " + method.getName());
            }
        }
        TreeSet<String> constants = new TreeSet<>();
        for (Field field : PlushFlocks.class.getDeclaredFields()) {
            if (!Modifier.isPrivate(field.getModifiers())) {
                constants.add(field.getName());
            }
        }
        hold(constants.equals(new TreeSet<>(List.of("BAD", "STATE", "FULL", "NONE", "NO"))), "constants " + constants);
        hold(PlushFlocks.BAD == -1 && PlushFlocks.STATE == -2 && PlushFlocks.FULL == -3 && PlushFlocks.NONE == -9
                && PlushFlocks.NO == -1000000, "what the constants are");
        hold(Modifier.isFinal(PlushFlocks.class.getModifiers()), "the class is final");
        hold(PlushFlocks.class.getConstructors().length == 1, "one constructor");
    }

    private static List<Class<?>> allClasses() {
        List<Class<?>> all = new ArrayList<>(List.of(PlushFlocks.class));
        all.addAll(List.of(PlushFlocks.class.getDeclaredClasses()));
        return all;
    }

    private static void classes() {
        List<Class<?>> all = allClasses();
        hold(all.size() <= 12, "some twelve classes, not " + all.size());
        for (Class<?> one : all) {
            int modifiers = one.getModifiers();
            hold(one == PlushFlocks.class || Modifier.isStatic(modifiers), one + " is static");
            hold(one == PlushFlocks.class || !Modifier.isPublic(modifiers) && !Modifier.isProtected(modifiers),
                    one + " is private or package-visible");
            fields(one);
            for (Method method : one.getDeclaredMethods()) {
                hold(method.getParameterCount() <= 7, method + " takes at most seven parameters");
            }
            int hidden = one.isEnum() ? 2 : 0;
            for (Constructor<?> made : one.getDeclaredConstructors()) {
                hold(made.getParameterCount() - hidden <= 7, made + " takes at most seven parameters");
            }
        }
    }

    private static void fields(Class<?> one) {
        int own = 0;
        for (Field field : one.getDeclaredFields()) {
            boolean shared = Modifier.isStatic(field.getModifiers());
            own += shared ? 0 : 1;
            hold(!shared || Modifier.isFinal(field.getModifiers()), field + " is final");
        }
        hold(own <= 20, one + " has some twenty fields beside its constants, not " + own);
    }

    private static void words(String source) {
        String code = source.replaceAll("(?s)/\\*.*?\\*/", " ").replaceAll("//[^\n]*", " ");
        for (String word : FORBIDDEN) {
            hold(!Pattern.compile("\\b" + word + "\\b").matcher(code).find(), "no " + word);
        }
        String noCases = code.replaceAll("(case [^;{}]*?|default *)->", " ");
        hold(!noCases.contains("->") && !code.contains("::"), "no lambda, no method reference");
        Matcher imports = Pattern.compile("\\bimport ([^;]*);").matcher(code);
        while (imports.find()) {
            hold(IMPORTS.contains(imports.group(1)), "import " + imports.group(1));
        }
        Matcher called = Pattern.compile("\\b(Arrays|System|Integer|Long|Math)\\.(\\w+)").matcher(code);
        while (called.find()) {
            hold(mayBeCalled(called.group(1), called.group(2)), "call of " + called.group());
        }
        for (char sign : code.toCharArray()) {
            hold(sign < 128, "signs are 1 to 127");
        }
    }

    private static boolean mayBeCalled(String of, String name) {
        switch (of) {
            case "Arrays": return OF_ARRAYS.contains(name);
            case "System": return name.equals("arraycopy");
            default: return !name.endsWith("Exact");
        }
    }

    private static void methodLengths(String source) {
        int start = 0;
        String[] lines = source.split("\n");
        for (int i = 0; i < lines.length; i++) {
            if (lines[i].matches("( {4}| {8})[a-zA-Z].*\\) \\{") && !lines[i].matches(" *(for|if|switch|while).*")) {
                start = i;
            } else if (lines[i].matches("( {4}| {8})\\}")) {
                hold(i - start < 60 || start == 0, "a method of " + (i - start) + " lines: " + lines[start]);
                start = 0;
            }
        }
    }
}
