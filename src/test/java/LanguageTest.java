import java.io.IOException;
import java.lang.reflect.Constructor;
import java.lang.reflect.Field;
import java.lang.reflect.Method;
import java.lang.reflect.Modifier;
import java.nio.file.Files;
import java.nio.file.Path;
import java.util.Arrays;
import java.util.List;
import java.util.Set;
import java.util.TreeSet;
import java.util.regex.Matcher;
import java.util.regex.Pattern;

/** The face of the document, and the rules of LANGUAGE.md that can be seen in the text or the compiled class. */
public final class LanguageTest {
    private static final Path SOURCE = Path.of("src/main/java/BenchTimes.java");
    private static final Set<String> FACE = new TreeSet<>(List.of("element/1", "as/2", "allow/2", "film/3", "habit/1",
            "cycle/4", "normal/1", "of/2", "job/0", "part/3", "set/1", "change/1", "move/1", "rate/2", "worth/3",
            "week/1", "feed/1", "read/0", "rule/1", "work/4", "wait/4", "learner/3", "earned/1", "pay/3", "cause/1",
            "pool/3", "efficiency/2", "looser/2", "order/1", "slow/2", "tell/1", "check/1", "count/1", "found/1"));
    private static int wrong;

    public static void main(String[] args) throws IOException {
        theFace();
        theClassesInside();
        staticFields();
        theText(Files.readString(SOURCE));
        noObjectsInCalls(Files.readString(SOURCE));
        System.out.println(wrong == 0 ? "as due" : wrong + " rules are broken");
        if (wrong != 0) {
            System.exit(1);
        }
    }

    private static void holds(boolean holds, String rule) {
        if (!holds) {
            wrong++;
            System.out.println("broken: " + rule);
        }
    }

    private static void theFace() {
        Set<String> face = new TreeSet<>();
        Set<String> publicNames = new TreeSet<>();
        for (Method method : BenchTimes.class.getDeclaredMethods()) {
            if (Modifier.isPublic(method.getModifiers())) {
                face.add(method.getName() + "/" + method.getParameterCount());
                publicNames.add(method.getName());
                boolean ints = Arrays.stream(method.getParameterTypes()).allMatch(type -> type == int.class);
                holds(ints && method.getReturnType() == int.class, method + " is of ints alone");
                holds(!Modifier.isStatic(method.getModifiers()), method + " is a method of an object");
            } else {
                holds(Modifier.isPrivate(method.getModifiers()), method + " is private");
            }
        }
        holds(face.equals(FACE), "the public methods are those of the document: " + face);
        for (Class<?> type : BenchTimes.class.getDeclaredClasses()) {
            for (Method method : type.getDeclaredMethods()) {
                holds(!publicNames.contains(method.getName()), method + " doesn't bear the name of a public one");
            }
        }
        for (Method method : BenchTimes.class.getDeclaredMethods()) {
            holds(Modifier.isPublic(method.getModifiers()) || !publicNames.contains(method.getName()),
                    method + " doesn't bear the name of a public one");
        }
        for (Field field : BenchTimes.class.getDeclaredFields()) {
            holds(Modifier.isPrivate(field.getModifiers()), field + " is private");
        }
        Constructor<?>[] constructors = BenchTimes.class.getDeclaredConstructors();
        holds(constructors.length == 1 && Modifier.isPublic(constructors[0].getModifiers())
                && constructors[0].getParameterCount() == 0, "one public constructor without parameters");
        holds(Modifier.isFinal(BenchTimes.class.getModifiers()), "the class is final");
    }

    private static void theClassesInside() {
        Class<?>[] inside = BenchTimes.class.getDeclaredClasses();
        holds(inside.length <= 11, "the file has at most twelve classes");
        for (Class<?> type : inside) {
            holds(Modifier.isStatic(type.getModifiers()), type + " is static");
            holds(type.getDeclaredClasses().length == 0, type + " has no classes inside");
            long fields = Arrays.stream(type.getDeclaredFields()).filter(f -> !Modifier.isStatic(f.getModifiers())).count();
            holds(fields <= 20, type + " has at most twenty fields");
            for (Method method : type.getDeclaredMethods()) {
                holds(method.getParameterCount() <= 7, method + " has at most seven parameters");
            }
        }
    }

    private static void staticFields() {
        List<Class<?>> allowed = List.of(int.class, long.class, boolean.class, char.class, String.class, int[].class,
                long[].class, char[].class, byte[].class);
        List<Class<?>> all = new java.util.ArrayList<>(List.of(BenchTimes.class.getDeclaredClasses()));
        all.add(BenchTimes.class);
        for (Class<?> type : all) {
            for (Field field : type.getDeclaredFields()) {
                if (Modifier.isStatic(field.getModifiers())) {
                    holds(Modifier.isFinal(field.getModifiers()) && allowed.contains(field.getType()),
                            field + " is a constant");
                }
            }
        }
    }

    private static String withoutComments(String text) {
        return text.replaceAll("(?s)/\\*.*?\\*/", "").replaceAll("//[^\n]*", "");
    }

    private static void theText(String text) {
        String code = withoutComments(text);
        List<String> words = List.of("throw", "throws", "try", "catch", "finally", "synchronized", "assert", "package",
                "double", "float", "Math\\.[a-z]+Exact", "hashCode", "toString", "protected", "System", "Object", "->", "::",
                "Random", "volatile", "native");
        for (String word : words) {
            boolean sign = !Character.isLetter(word.charAt(0));
            Matcher m = Pattern.compile(sign ? word : "\\b" + word + "\\b").matcher(code);
            holds(!m.find(), "no " + word);
        }
        Matcher imports = Pattern.compile("import ([^;]+);").matcher(code);
        while (imports.find()) {
            holds(imports.group(1).equals("java.util.Arrays"), "no import of " + imports.group(1));
        }
        holds(text.chars().allMatch(c -> c == '\n' || c >= 32 && c < 127), "plain signs alone");
        int length = 0;
        for (String line : code.split("\n")) {
            boolean begins = line.matches(" {4}(    )?(public |private |static |)+[a-zA-Z\\[\\]]+ [a-zA-Z]+\\(.*\\{");
            length = begins ? 0 : length + 1;
            holds(length <= 60 || !line.matches(" {4}(    )?\\}"), "a method is at most sixty lines: " + line);
        }
    }

    /** All calls of a run live in one room: whatever is needed is made with the object. */
    private static void noObjectsInCalls(String text) {
        for (String line : withoutComments(text).split("\n")) {
            if (line.contains("new ")) {
                holds(line.matches(" +private final .*= new .*;"), "nothing is made but with the object: " + line.trim());
            }
        }
    }
}
