import java.lang.reflect.Executable;
import java.lang.reflect.Field;
import java.lang.reflect.Method;
import java.lang.reflect.Modifier;
import java.nio.file.Files;
import java.nio.file.Path;
import java.util.ArrayList;
import java.util.Arrays;
import java.util.HashMap;
import java.util.LinkedHashMap;
import java.util.List;
import java.util.Map;
import java.util.Set;
import java.util.TreeSet;
import java.util.regex.Matcher;
import java.util.regex.Pattern;

/** The source keeps to the rules 2 to 13 of LANGUAGE.md, as far as its text and its classes show that. */
public final class LanguageTest {
    private static final Set<String> LIBRARY = Set.of("length", "charAt", "isEmpty", "equals", "indexOf", "substring",
            "append", "setLength", "toString", "bitCount", "min", "max", "abs");
    private static final String REFUSAL = "IllegalStateException|IllegalArgumentException|IndexOutOfBoundsException"
            + "|ArithmeticException|UnsupportedOperationException|NoSuchElementException|RuntimeException";
    private static int wrong = 0;

    /** A method or a constructor in the source: its class, its name, its lines without texts and comments. */
    private record Part(String owner, String name, String body, int lines) {
        boolean isConstructor() {
            return owner.equals(name);
        }

        String told() {
            return owner + "." + name;
        }
    }

    public static void main(String[] args) throws Exception {
        String text = Files.readString(Path.of(args.length > 0 ? args[0] : ".", "src/main/java/Gatesquare.java"));
        String code = text.replaceAll("(?s)/\\*.*?\\*/", "").replaceAll("//[^\n]*", "");
        String bare = code.replaceAll("\"[^\"\n]*\"", "\"\"").replaceAll("'.'", "' '");
        List<Part> parts = partsOf(bare);
        List<Class<?>> classes = new ArrayList<>(List.of(Gatesquare.class));
        classes.addAll(Arrays.asList(Gatesquare.class.getDeclaredClasses()));
        classesInside(bare, classes);
        types(text, classes);
        library(bare, classes);
        staticFields(bare, classes);
        exceptions(code, bare, parts);
        nothingIsThrownByTheMachine(bare, parts);
        recursionAndLoops(bare, parts);
        texts(code);
        sizes(parts, classes);
        objects(bare);
        world(bare);
        System.out.println("LanguageTest: " + parts.size() + " methods, " + wrong + " wrong");
        if (wrong != 0) {
            System.exit(1);
        }
    }

    private static void check(boolean isRight, int rule, String what) {
        if (!isRight) {
            wrong++;
            System.out.println("LanguageTest: rule " + rule + ": " + what);
        }
    }

    private static void checkNone(String bare, int rule, String words) {
        Matcher found = Pattern.compile(words).matcher(bare);
        check(!found.find(), rule, "the source has " + words);
    }

    /** The methods begin with 4 or 8 blanks, and end with a bracket that stands as far. */
    private static List<Part> partsOf(String bare) {
        Pattern head = Pattern.compile("(?m)^( {4}| {8})(?! )(?!private static final class)([^=;{}]*?)(\\w+)\\([^;{}]*\\)[^;{}]*\\{\n");
        List<Part> parts = new ArrayList<>();
        Matcher found = head.matcher(bare);
        int from = 0;
        while (found.find(from)) {
            int end = bare.indexOf("\n" + found.group(1) + "}\n", found.end() - 1);
            String body = bare.substring(found.end(), end + 1);
            parts.add(new Part(ownerOf(bare, found.start()), found.group(3), body, body.split("\n").length + 2));
            from = end;
        }
        return parts;
    }

    private static String ownerOf(String bare, int place) {
        int indent = bare.startsWith("        ", place) ? 4 : 0;
        Matcher found = Pattern.compile("(?m)^ {" + indent + "}(public|private static) final class (\\w+) ").matcher(bare.substring(0, place));
        String owner = "";
        while (found.find()) {
            owner = found.group(2);
        }
        return owner;
    }

    private static void classesInside(String bare, List<Class<?>> classes) {
        checkNone(bare, 2, "->|::|@");
        for (int k = 1; k < 20; k++) {
            boolean isThere = true;
            try {
                Class.forName("Gatesquare$" + k);
            } catch (ClassNotFoundException e) {
                isThere = false;
            }
            check(!isThere, 2, "a class without a name");
        }
        check(bare.split("\\bclass \\w").length - 1 == classes.size(), 2, "a class within a method");
    }

    private static void types(String text, List<Class<?>> classes) {
        check(text.chars().allMatch(sign -> sign < 128), 3, "a sign above 127");
        Set<Class<?>> allowed = new java.util.HashSet<>(classes);
        allowed.addAll(List.of(void.class, int.class, long.class, boolean.class, char.class, int[].class, long[].class,
                String.class, StringBuilder.class));
        for (Class<?> each : classes) {
            for (Field field : each.getDeclaredFields()) {
                Class<?> type = field.getType();
                boolean isRow = type.isArray() && classes.contains(type.getComponentType());
                check(isRow || allowed.contains(type), 3, "the type of " + field);
            }
            for (Method method : each.getDeclaredMethods()) {
                check(allowed.contains(method.getReturnType()), 3, "the type of " + method);
                check(allowed.containsAll(List.of(method.getParameterTypes())), 3, "the types of " + method);
            }
        }
    }

    private static void library(String bare, List<Class<?>> classes) {
        Set<String> own = new TreeSet<>();
        Set<String> names = new TreeSet<>();
        for (Class<?> each : classes) {
            names.add(each.getSimpleName());
            for (Method method : each.getDeclaredMethods()) {
                own.add(method.getName());
            }
        }
        Matcher calls = Pattern.compile("\\.(\\w+)\\(").matcher(bare);
        while (calls.find()) {
            check(own.contains(calls.group(1)) || LIBRARY.contains(calls.group(1)), 4, "calls " + calls.group(1));
        }
        Matcher holders = Pattern.compile("\\b([A-Z]\\w*)\\.\\w").matcher(bare);
        while (holders.find()) {
            String holder = holders.group(1);
            check(names.contains(holder) || Set.of("Integer", "Long", "Math").contains(holder), 4, "uses " + holder);
        }
        Matcher made = Pattern.compile("\\bnew (\\w+)").matcher(bare);
        while (made.find()) {
            String name = made.group(1);
            check(names.contains(name) || name.matches(REFUSAL + "|StringBuilder|int|long"), 4, "makes " + name);
        }
        List<String> imports = Arrays.stream(bare.split("\n")).filter(line -> line.startsWith("import")).toList();
        check(imports.equals(List.of("import java.util.NoSuchElementException;")), 4, "imports " + imports);
    }

    private static void staticFields(String bare, List<Class<?>> classes) {
        Set<Class<?>> constants = Set.of(int.class, long.class, boolean.class, char.class, String.class, int[].class,
                long[].class, char[].class, byte[].class);
        for (Class<?> each : classes) {
            for (Field field : each.getDeclaredFields()) {
                if (Modifier.isStatic(field.getModifiers())) {
                    check(Modifier.isFinal(field.getModifiers()) && constants.contains(field.getType()), 5, "the field " + field);
                }
            }
        }
        checkNone(bare, 5, "static \\{");
        // a row that is a constant is written out, and nothing is put into it
        checkNone(bare, 5, "static final \\w+\\[\\] \\w+ = [^{]|[A-Z_]{2,}\\[|put(Long)?\\([A-Z]");
    }

    private static void exceptions(String code, String bare, List<Part> parts) {
        int thrown = code.split("\\bthrow\\b", -1).length;
        int written = code.split("throw new (" + REFUSAL + ")\\((\"[^\"\n]*\")?\\);", -1).length;
        check(thrown == written, 6, "something else is thrown than a new exception with a written text");
        checkNone(bare, 6, "\\b(try|catch|finally|synchronized|assert|instanceof|hashCode)\\b|\\btoString\\(\\) \\{");
        for (Part part : parts) {
            check(!part.isConstructor() || !part.body().contains("throw"), 6, "thrown in a constructor: " + part.told());
        }
    }

    /** A place of a row is used where it is tested, a divisor is a number that is written. */
    private static void nothingIsThrownByTheMachine(String bare, List<Part> parts) {
        int places = 0;
        for (Part part : parts) {
            Matcher found = Pattern.compile("(\\w+)\\[([^\\]]*)\\]").matcher(part.body());
            while (found.find()) {
                String row = found.group(1);
                String place = found.group(2);
                places++;
                boolean isBelow = part.body().matches("(?s).*\\b" + Pattern.quote(place) + " < " + row + "\\.length\\b.*");
                boolean isAbove = part.body().matches("(?s).*\\b(" + Pattern.quote(place) + " >= 0|int " + Pattern.quote(place) + " = 0)\\b.*");
                check(isBelow && isAbove, 7, row + "[" + place + "] in " + part.told() + " is not tested there");
            }
        }
        check(places > 0, 7, "no place of a row was found");
        checkNone(bare, 7, "[/%]=|[/%] (?!\\d|[A-Z_]{2,})|[/%] 0");
        checkNone(bare, 7, "new \\w+\\[(?![A-Z_]{2,}\\])");
        Matcher casts = Pattern.compile("\\((\\w+)\\) ?[\\w(]").matcher(bare);
        while (casts.find()) {
            boolean isControl = bare.substring(Math.max(0, casts.start() - 7), casts.start()).matches("(?s).*(if|for|while|switch) ?");
            check(isControl || casts.group(1).equals("char"), 7, "the cast " + casts.group());
        }
    }

    private static void recursionAndLoops(String bare, List<Part> parts) {
        Map<String, Set<String>> calls = callsOf(parts);
        Map<String, Integer> depths = new HashMap<>();
        int deepest = 0;
        Set<String> recursions = new TreeSet<>();
        for (Part part : parts) {
            deepest = Math.max(deepest, depth(part.told(), calls, depths, new ArrayList<>()));
            if (Pattern.compile("(?<![.\\w])" + part.name() + "\\(").matcher(part.body()).find()) {
                recursions.add(part.told());
            }
        }
        check(recursions.equals(Set.of("Drawing.nodeOf", "Choice.search")), 8, "methods that call themselves: " + recursions);
        check(deepest <= 8 && deepest > 4, 11, "calls go " + deepest + " deep");
        checkNone(bare, 9, "for \\([^;]*;\\s*;|while \\(true|\\bdo \\{");
        Matcher loops = Pattern.compile("while \\((.*)\\) \\{").matcher(bare);
        while (loops.find()) {
            check(loops.group(1).matches("\\w+ < [A-Z_]+ && .*"), 9, "a loop without a bound: " + loops.group(1));
        }
    }

    /** By names: a call of a name is one of each method that has it, but for the caller itself. */
    private static Map<String, Set<String>> callsOf(List<Part> parts) {
        Map<String, Set<String>> calls = new LinkedHashMap<>();
        for (Part part : parts) {
            Set<String> called = new TreeSet<>();
            for (Part other : parts) {
                boolean isNamed = Pattern.compile("\\b" + other.name() + "\\(").matcher(part.body()).find();
                if (isNamed && other != part) {
                    called.add(other.told());
                }
            }
            calls.put(part.told(), called);
        }
        return calls;
    }

    private static int depth(String told, Map<String, Set<String>> calls, Map<String, Integer> depths, List<String> above) {
        check(!above.contains(told), 8, "calls that lead back: " + above + " to " + told);
        if (depths.containsKey(told) || above.contains(told)) {
            return depths.getOrDefault(told, 0);
        }
        above.add(told);
        int deepest = 0;
        for (String called : calls.get(told)) {
            deepest = Math.max(deepest, depth(called, calls, depths, above));
        }
        above.remove(told);
        depths.put(told, deepest + 1);
        return deepest + 1;
    }

    private static void texts(String code) {
        String told = code.replaceAll("\"[^\"\n]*\"", "\"\"");
        check(!told.matches("(?s).*(\"\"\\s*\\+|\\+\\s*\"\").*"), 10, "texts joined by +");
    }

    private static void sizes(List<Part> parts, List<Class<?>> classes) {
        check(classes.size() <= 12, 11, classes.size() + " classes");
        int methods = 0;
        for (Class<?> each : classes) {
            long fields = Arrays.stream(each.getDeclaredFields()).filter(field -> !Modifier.isStatic(field.getModifiers())).count();
            check(fields <= 20, 11, fields + " fields in " + each);
            List<Executable> called = new ArrayList<>(Arrays.asList(each.getDeclaredMethods()));
            methods += called.size();
            called.addAll(Arrays.asList(each.getDeclaredConstructors()));
            for (Executable one : called) {
                check(one.getParameterCount() <= 7, 11, "parameters of " + one);
            }
        }
        check(parts.stream().filter(part -> !part.isConstructor()).count() == methods, 11, "not all methods were found in the source");
        for (Part part : parts) {
            check(part.lines() <= 60, 11, part.lines() + " lines in " + part.told());
        }
    }

    private static void objects(String bare) {
        check(bare.split("new StringBuilder", -1).length == 2, 12, "more builders than one");
    }

    private static void world(String bare) {
        checkNone(bare, 13, "\\b(System|Thread|Runtime|Random|random|Date|Files|Object|float|double|native|volatile|transient"
                + "|protected|package|var|yield|interface|enum|record)\\b|\\w+Exact\\(");
    }
}
