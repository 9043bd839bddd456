import java.io.IOException;
import java.lang.reflect.Constructor;
import java.lang.reflect.Executable;
import java.lang.reflect.Field;
import java.lang.reflect.Method;
import java.lang.reflect.Modifier;
import java.nio.charset.StandardCharsets;
import java.nio.file.Files;
import java.nio.file.Path;
import java.util.ArrayList;
import java.util.Arrays;
import java.util.HashMap;
import java.util.HashSet;
import java.util.LinkedHashSet;
import java.util.List;
import java.util.Map;
import java.util.Set;
import java.util.TreeSet;
import java.util.regex.Pattern;

/** The rules of LANGUAGE.md, as far as the source, the compiled classes and their faces show that they are kept. */
public final class LanguageTest {
    private static final Path SOURCE = Path.of("src/main/java/JoinNet.java");
    private static final int MOST_LINES = 60, MOST_PARAMETERS = 7, MOST_CLASSES = 12, MOST_FIELDS = 20, MOST_DEEP = 8;
    private static final Set<String> EXCEPTIONS = Set.of("IllegalStateException", "IllegalArgumentException", "IndexOutOfBoundsException",
            "ArithmeticException", "UnsupportedOperationException", "NoSuchElementException", "RuntimeException");
    /** The face as the document has it: results, names, arguments, and exceptions by their first signs. */
    private static final String[] FACE = {"int feed(long,int) IA IS", "int tell(int,int,int,int,int,int) IA IS", "int drop(int) IO",
        "int pass(int) IA", "int facts()", "int factAt(int) IO", "int fact(int,int) IO IA", "int rule() IS", "void dropRule(int) IO",
        "int matches()", "int met(int) IO", "int shared(boolean)", "int focus(int) IA IS", "int agenda()", "int next(int) IA", "int fire()",
        "int run(int) IA", "int loop()", "boolean wouldBe(int,int,int,int,int) IA", "int takeBack(int) IA IS", "int why(int,int,int) IO IA",
        "int goal() IS", "boolean follows(int,int,int,int) IA IS", "int policy(int,int) IO IA",
        "int row(int,int,int,int,int,int,int) IO IA IS", "int outcome(int,int,int) IO IA", "int hole(int,boolean) IO"};
    private static final Map<String, Integer> CONSTANTS = Map.of("NONE", -1000, "ONE", 0, "FIRST", 1, "RANK", 2, "SUM", 3);

    private static final List<Class<?>> classes = new ArrayList<>();
    private static final List<ClassFile> files = new ArrayList<>();
    private static int checks;
    private static int wrong;

    public static void main(String[] args) throws IOException, IllegalAccessException {
        collect(JoinNet.class);
        for (Class<?> type : classes) {
            files.add(new ClassFile(type));
        }
        face();
        classesInside();
        types();
        library();
        statics();
        exceptions();
        source();
        sizes();
        depth();
        System.out.println("LanguageTest: " + checks + " checks, " + wrong + " wrong");
        if (wrong != 0) {
            System.exit(1);
        }
    }

    private static void collect(Class<?> type) {
        classes.add(type);
        for (Class<?> inside : type.getDeclaredClasses()) {
            collect(inside);
        }
    }

    private static void keeps(int rule, boolean isKept, String what) {
        checks++;
        if (!isKept) {
            wrong++;
            System.out.println("rule " + rule + ": " + what);
        }
    }

    // ---- rules 1 to 3

    private static String signature(Method method) {
        StringBuilder text = new StringBuilder(method.getReturnType() + " " + method.getName() + "(");
        for (Class<?> type : method.getParameterTypes()) {
            text.append(text.charAt(text.length() - 1) == '(' ? "" : ",").append(type);
        }
        text.append(")");
        for (Class<?> type : method.getExceptionTypes()) {
            String name = type.getSimpleName();
            text.append(" I").append(name.startsWith("IllegalA") ? "A" : name.startsWith("IllegalS") ? "S" : "O");
        }
        return text.toString();
    }

    private static void face() throws IllegalAccessException {
        Class<?> type = JoinNet.class;
        keeps(1, type.getPackageName().isEmpty(), "a package");
        keeps(1, Modifier.isPublic(type.getModifiers()) && Modifier.isFinal(type.getModifiers()), "the class is public and final");
        Set<String> due = new TreeSet<>(Arrays.asList(FACE));
        Set<String> got = new TreeSet<>();
        for (Method method : type.getDeclaredMethods()) {
            if (Modifier.isPublic(method.getModifiers())) {
                got.add(signature(method));
            } else {
                keeps(1, Modifier.isPrivate(method.getModifiers()) || method.isSynthetic(), "another member: " + method);
            }
        }
        keeps(1, due.equals(got), "the face is " + got);
        Map<String, Integer> constants = new HashMap<>();
        for (Field field : type.getDeclaredFields()) {
            if (Modifier.isPublic(field.getModifiers())) {
                keeps(1, Modifier.isStatic(field.getModifiers()) && Modifier.isFinal(field.getModifiers()), "a constant: " + field);
                keeps(1, field.getType() == int.class, "a constant: " + field);
                constants.put(field.getName(), field.getInt(null));
            } else {
                keeps(1, Modifier.isPrivate(field.getModifiers()), "another member: " + field);
            }
        }
        keeps(1, constants.equals(CONSTANTS), "the constants are " + constants);
        for (Constructor<?> constructor : type.getDeclaredConstructors()) {
            boolean isFace = Modifier.isPublic(constructor.getModifiers()) && constructor.getParameterCount() == 0;
            keeps(1, isFace || Modifier.isPrivate(constructor.getModifiers()), "another member: " + constructor);
        }
        keeps(1, type.getConstructors().length == 1 && type.getInterfaces().length == 0, "one constructor");
    }

    private static void classesInside() {
        Set<String> faces = new HashSet<>();
        for (String signature : FACE) {
            faces.add(signature.replaceAll(".* (\\w+)\\(.*", "$1"));
        }
        for (Class<?> type : classes) {
            int modifiers = type.getModifiers();
            boolean isHidden = !Modifier.isPublic(modifiers) && !Modifier.isProtected(modifiers);
            keeps(1, type == JoinNet.class || isHidden && Modifier.isStatic(modifiers), "a class inside that is seen: " + type);
            for (Method method : type.getDeclaredMethods()) {
                boolean isPrivate = Modifier.isPrivate(method.getModifiers());
                keeps(1, !isPrivate || !faces.contains(method.getName()), "a private method with a public name: " + method);
                boolean isOwn = !method.isSynthetic() && !type.isRecord() && !type.isEnum();
                keeps(6, !isOwn || !Set.of("equals", "hashCode", "toString").contains(method.getName()), "an own " + method);
            }
        }
    }

    private static boolean isKnown(Class<?> type) {
        if (type.isArray()) {
            Class<?> part = type.getComponentType();
            boolean isOfNumbers = part.isArray() && part.getComponentType().isPrimitive() && part.getComponentType() != boolean.class;
            return isOfNumbers || part.isPrimitive() || classes.contains(part) || part == String.class;
        }
        return type.isPrimitive() || classes.contains(type)
                || Set.of("String", "StringBuilder", "Integer", "List", "ArrayList", "Object").contains(type.getSimpleName());
    }

    private static void types() {
        for (Class<?> type : classes) {
            for (Field field : type.getDeclaredFields()) {
                keeps(3, isKnown(field.getType()), "a type: " + field);
            }
            for (Method method : type.getDeclaredMethods()) {
                keeps(3, isKnown(method.getReturnType()), "a type: " + method);
                for (Class<?> argument : method.getParameterTypes()) {
                    keeps(3, isKnown(argument), "a type: " + method);
                }
            }
        }
    }

    // ---- rules 4 to 6

    private static boolean isInLibrary(String reference) {
        String call = reference.replaceFirst("^java/(lang|util)/", "");
        int dot = call.indexOf('.');
        String owner = dot < 0 ? call : call.substring(0, dot);
        if (owner.startsWith("JoinNet") || owner.startsWith("[")) {
            return true;
        }
        if (dot < 0) {
            return EXCEPTIONS.contains(owner) || Set.of("Object", "String", "StringBuilder", "Integer", "Long", "Math", "System", "Arrays",
                    "List", "ArrayList", "Iterator", "Iterable", "Comparable", "Enum", "Record").contains(owner);
        }
        String name = call.substring(dot + 1, call.indexOf(':'));
        String type = call.substring(call.indexOf(':') + 1);
        return switch (owner) {
            case "Object", "Enum", "Record" -> true;
            case "String" -> Set.of("length", "charAt", "isEmpty", "equals", "substring", "toCharArray").contains(name)
                    || name.equals("indexOf") && type.equals("(I)I") || name.equals("<init>") && type.equals("([C)V");
            case "StringBuilder" -> Set.of("charAt", "setCharAt", "setLength", "deleteCharAt", "reverse", "length", "toString").contains(name)
                    || name.equals("<init>") && type.equals("()V")
                    || name.equals("append") && (type.startsWith("(C)") || type.startsWith("(I)") || type.startsWith("(Ljava/lang/String;)"));
            case "List", "ArrayList" -> Set.of("<init>", "add", "get", "set", "remove", "size", "isEmpty", "clear", "iterator", "of").contains(name);
            case "Integer", "Long", "Math" -> !name.endsWith("Exact") && type.matches("\\([IJ]*\\)([IJZ]|Ljava/lang/Integer;)");
            case "System" -> name.equals("arraycopy");
            case "Arrays" -> Set.of("copyOf", "copyOfRange", "fill").contains(name) && type.matches("\\(\\[[IJSBCDF].*");
            case "Iterator", "Iterable", "Comparable" -> true;
            default -> EXCEPTIONS.contains(owner) && name.equals("<init>")
                    && (type.equals("()V") || type.equals("(Ljava/lang/String;)V"));
        };
    }

    private static void library() {
        for (ClassFile file : files) {
            for (String reference : file.references) {
                keeps(4, isInLibrary(reference), file.name + " uses " + reference);
            }
            for (String text : file.texts) {
                keeps(4, text.chars().allMatch(sign -> sign >= 1 && sign <= 127), "a sign of " + text);
            }
            for (ClassFile.Method method : file.methods) {
                for (String call : method.calls()) {
                    // Lambdas, method references, and texts that are joined by + are compiled to these.
                    keeps(10, !call.startsWith("dynamic."), method.name() + " has a " + call);
                }
            }
        }
    }

    private static void statics() {
        for (Class<?> type : classes) {
            for (Field field : type.getDeclaredFields()) {
                if (!Modifier.isStatic(field.getModifiers()) || field.isSynthetic() || field.isEnumConstant()) {
                    continue;
                }
                keeps(5, Modifier.isFinal(field.getModifiers()), "a static field that is not final: " + field);
                boolean isValues = field.getType().isArray() && field.getType().getComponentType().isEnum();
                keeps(5, isValues || Set.of("int", "long", "boolean", "char", "String", "int[]", "long[]", "char[]", "byte[]")
                        .contains(field.getType().getSimpleName()), "a static field: " + field);
            }
        }
    }

    private static void exceptions() {
        for (ClassFile file : files) {
            for (ClassFile.Method method : file.methods) {
                keeps(6, !method.isThrowing() || !method.name().contains("<init>"), "a throw in " + method.name());
                keeps(6, !method.isThrowing() || method.caught().isEmpty(), "a try in a method that throws: " + method.name());
                for (String caught : method.caught()) {
                    keeps(6, EXCEPTIONS.contains(caught.replaceAll(".*/", "")), "a catch of " + caught + " in " + method.name());
                }
            }
        }
        for (Class<?> type : classes) {
            keeps(6, !Throwable.class.isAssignableFrom(type), "an exception class of its own: " + type);
        }
    }

    // ---- what the source alone shows

    private static void source() throws IOException {
        byte[] bytes = Files.readAllBytes(SOURCE);
        for (byte sign : bytes) {
            if (sign < 0) {
                keeps(4, false, "a sign above 127");
            }
        }
        String code = new String(bytes, StandardCharsets.US_ASCII).replaceAll("\"[^\"\n]*\"", "\"\"").replaceAll("//[^\n]*", "")
                .replaceAll("(?s)/\\*.*?\\*/", "");
        int[] rules = {1, 5, 6, 6, 6, 6, 9, 9, 13, 2, 2, 6, 7};
        String[] bad = {"\\bpackage\\b", "\\bstatic\\s*\\{", "\\bfinally\\b", "\\bassert\\b", "\\bsynchronized\\b",
            "\\bthrow\\s+(?!new\\s+(" + String.join("|", EXCEPTIONS) + ")\\s*\\(\\s*(\"\")?\\s*\\)\\s*;)", "while\\s*\\(\\s*true\\s*\\)",
            "for\\s*\\([^;)]*;\\s*;", "\\b(Random|Thread|File|Process|nanoTime|currentTimeMillis)\\b", "->", "::", "try\\s*\\(",
            "catch\\s*\\(\\s*(final\\s+)?(Throwable|Error|Exception|ArrayIndexOutOfBounds|NullPointer|ClassCast|NegativeArraySize|ArrayStore)"};
        for (int i = 0; i < bad.length; i++) {
            keeps(rules[i], !Pattern.compile(bad[i]).matcher(code).find(), "the source has " + bad[i]);
        }
        Set<String> imports = Set.of("java.util.ArrayList", "java.util.Arrays", "java.util.Iterator", "java.util.List",
                "java.util.NoSuchElementException");
        for (String line : code.split("\n")) {
            keeps(4, !line.startsWith("import ") || imports.contains(line.replaceAll("import (.*);.*", "$1").trim()), line);
        }
        keeps(1, code.split("\\bpublic final class \\w+").length == 2 && !code.contains("public class"), "one public class");
    }

    // ---- rule 11

    private static void sizes() {
        keeps(11, classes.size() <= MOST_CLASSES, classes.size() + " classes");
        for (Class<?> type : classes) {
            int fields = 0;
            for (Field field : type.getDeclaredFields()) {
                fields += Modifier.isStatic(field.getModifiers()) ? 0 : 1;
            }
            keeps(11, fields <= MOST_FIELDS, type + " has " + fields + " fields");
            List<Executable> executables = new ArrayList<>(Arrays.asList(type.getDeclaredMethods()));
            executables.addAll(Arrays.asList(type.getDeclaredConstructors()));
            for (Executable executable : executables) {
                keeps(11, executable.getParameterCount() <= MOST_PARAMETERS, "parameters of " + executable);
            }
        }
        for (ClassFile file : files) {
            for (ClassFile.Method method : file.methods) {
                // A constructor's lines hold those of the fields that are set where they stand.
                boolean isOwn = !method.name().contains("<init>") && !method.name().contains("<clinit>");
                keeps(11, !isOwn || method.lastLine() - method.firstLine() + 3 <= MOST_LINES, "lines of " + method.name());
            }
        }
    }

    /** Calls that are no recursion go at most so deep; what calls itself in a ring counts as often as it has methods. */
    private static void depth() {
        Map<String, Set<String>> calls = new HashMap<>();
        for (ClassFile file : files) {
            for (ClassFile.Method method : file.methods) {
                calls.put(method.name(), new LinkedHashSet<>(method.calls()));
            }
        }
        for (Set<String> called : calls.values()) {
            called.retainAll(calls.keySet());
        }
        for (String method : calls.keySet()) {
            List<String> path = longest(method, calls, new ArrayList<>());
            keeps(11, path.size() <= MOST_DEEP, "calls that go deep: " + path);
        }
    }

    private static List<String> longest(String method, Map<String, Set<String>> calls, List<String> open) {
        List<String> best = List.of();
        open.add(method);
        for (String called : calls.get(method)) {
            if (!open.contains(called)) {
                List<String> path = longest(called, calls, open);
                best = path.size() > best.size() ? path : best;
            }
        }
        open.remove(open.size() - 1);
        List<String> path = new ArrayList<>(List.of(method));
        path.addAll(best);
        return path;
    }
}
