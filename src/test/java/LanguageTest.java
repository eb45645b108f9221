import java.io.IOException;
import java.lang.reflect.Array;
import java.lang.reflect.Constructor;
import java.lang.reflect.Field;
import java.lang.reflect.Method;
import java.lang.reflect.Modifier;
import java.nio.file.Files;
import java.nio.file.Path;
import java.util.ArrayList;
import java.util.Arrays;
import java.util.Collections;
import java.util.IdentityHashMap;
import java.util.List;
import java.util.Set;
import java.util.TreeSet;
import java.util.regex.Matcher;
import java.util.regex.Pattern;

/** The face of the document, and the rules of LANGUAGE.md that can be seen in the text or the compiled class. */
public final class LanguageTest {
    private static final Path SOURCE = Path.of("src/main/java/BenchTimes.java");
    /** The document's face, under what the interface says ahead of the calls. */
    private static final List<String> FACE = List.of("public BenchTimes()",
            "---- elements", "public int element(int kind)", "public int as(int element, int kind)",
            "public int allow(int base, int more)", "public int film(int rater, int is, int told)",
            "public int habit(int rater)", "public int cycle(int element, int rater, int pace, int time)",
            "public int normal(int cycle)", "public int of(int element, int what)",
            "---- jobs and rates", "public int job()", "public int part(int job, int element, int often)",
            "public int set(int job)", "public int change(int element)", "public int move(int job)",
            "public int rate(int job, int week)", "public int worth(int job, int week, int i)",
            "public int week(int week)",
            "---- rules", "public int feed(int b)", "public int read()", "public int rule(int what)",
            "---- weeks", "public int work(int week, int on, int pieces, int minutes)",
            "public int wait(int week, int worker, int cause, int minutes)",
            "public int learner(int worker, int job, int week)", "public int earned(int row)",
            "public int pay(int worker, int week, int what)", "public int cause(int cause)",
            "public int pool(int workers, int week, int worker)",
            "---- loose and tight, slow", "public int efficiency(int worker, int job)",
            "public int looser(int job, int than)", "public int order(int i)", "public int slow(int worker, int job)",
            "---- what is told", "public int tell(int v)", "public int check(int week)", "public int count(int what)",
            "public int found(int k)");
    private static int wrong;

    public static void main(String[] args) throws IOException {
        theFace();
        theClassesInside();
        staticFields();
        theFaceAsWritten(Files.readString(SOURCE));
        theText(Files.readString(SOURCE));
        noObjectsInCalls(Files.readString(SOURCE));
        theRoomOfAnObject();
        System.out.println(wrong == 0 ? "as due" : wrong + " rules are broken");
        if (wrong != 0) {
            System.exit(1);
        }
    }

    private static void holds(boolean holds, String rule) {
        if (!holds) {
            wrong++;
            System.out.println("broken: " + rule);
        }
    }

    private static void theFace() {
        int many = 0;
        Set<String> publicNames = new TreeSet<>();
        for (Method method : BenchTimes.class.getDeclaredMethods()) {
            if (Modifier.isPublic(method.getModifiers())) {
                many++;
                publicNames.add(method.getName());
                boolean ints = Arrays.stream(method.getParameterTypes()).allMatch(type -> type == int.class);
                holds(ints && method.getReturnType() == int.class, method + " is of ints alone");
                holds(!Modifier.isStatic(method.getModifiers()), method + " is a method of an object");
            } else {
                holds(Modifier.isPrivate(method.getModifiers()), method + " is private");
            }
        }
        holds(many == 34, "the public methods are those of the document, and no others: " + publicNames);
        for (Class<?> type : BenchTimes.class.getDeclaredClasses()) {
            for (Method method : type.getDeclaredMethods()) {
                holds(!publicNames.contains(method.getName()), method + " doesn't bear the name of a public one");
            }
        }
        for (Method method : BenchTimes.class.getDeclaredMethods()) {
            holds(Modifier.isPublic(method.getModifiers()) || !publicNames.contains(method.getName()),
                    method + " doesn't bear the name of a public one");
        }
        for (Field field : BenchTimes.class.getDeclaredFields()) {
            holds(Modifier.isPrivate(field.getModifiers()), field + " is private");
        }
        Constructor<?>[] constructors = BenchTimes.class.getDeclaredConstructors();
        holds(constructors.length == 1 && Modifier.isPublic(constructors[0].getModifiers())
                && constructors[0].getParameterCount() == 0, "one public constructor without parameters");
        holds(Modifier.isFinal(BenchTimes.class.getModifiers()), "the class is final");
    }

    /** With the names of the parameters, in the document's order, each group behind its heading. */
    private static void theFaceAsWritten(String text) {
        List<String> found = new ArrayList<>();
        Matcher m = Pattern.compile("(?m)^    (public [^{]*\\))|^    // (---- .*)$").matcher(text);
        while (m.find()) {
            found.add(m.group(1) != null ? m.group(1) : m.group(2));
        }
        found.remove("---- what the calls share");
        holds(found.equals(FACE), "the face is written as in the document: " + found);
        holds(text.contains("\npublic final class BenchTimes {\n"), "the class is public and final");
        holds(text.split("\\bpublic\\b", -1).length - 1 == 36, "public are the class and its face alone");
    }

    private static void theClassesInside() {
        Class<?>[] inside = BenchTimes.class.getDeclaredClasses();
        holds(inside.length <= 11, "the file has at most twelve classes");
        for (Class<?> type : inside) {
            holds(Modifier.isStatic(type.getModifiers()), type + " is static");
            holds(type.getDeclaredClasses().length == 0, type + " has no classes inside");
        }
        for (Class<?> type : allClasses()) {
            long fields = Arrays.stream(type.getDeclaredFields()).filter(f -> !Modifier.isStatic(f.getModifiers())).count();
            holds(fields <= 20, type + " has at most twenty fields");
            for (Method method : type.getDeclaredMethods()) {
                holds(method.getParameterCount() <= 7, method + " has at most seven parameters");
            }
        }
    }

    private static List<Class<?>> allClasses() {
        List<Class<?>> all = new ArrayList<>(List.of(BenchTimes.class.getDeclaredClasses()));
        all.add(BenchTimes.class);
        return all;
    }

    private static void staticFields() {
        List<Class<?>> allowed = List.of(int.class, long.class, boolean.class, char.class, String.class, int[].class,
                long[].class, char[].class, byte[].class);
        for (Class<?> type : allClasses()) {
            for (Field field : type.getDeclaredFields()) {
                if (Modifier.isStatic(field.getModifiers())) {
                    holds(Modifier.isFinal(field.getModifiers()) && allowed.contains(field.getType()),
                            field + " is a constant");
                }
            }
        }
    }

    private static String withoutComments(String text) {
        return text.replaceAll("(?s)/\\*.*?\\*/", "").replaceAll("//[^\n]*", "");
    }

    private static void theText(String text) {
        String code = withoutComments(text);
        List<String> words = List.of("throw", "throws", "try", "catch", "finally", "synchronized", "assert", "package",
                "double", "float", "Math\\.[a-z]+Exact", "hashCode", "toString", "protected", "System", "Object", "->", "::",
                "Random", "volatile", "native");
        for (String word : words) {
            boolean sign = !Character.isLetter(word.charAt(0));
            Matcher m = Pattern.compile(sign ? word : "\\b" + word + "\\b").matcher(code);
            holds(!m.find(), "no " + word);
        }
        Matcher imports = Pattern.compile("import ([^;]+);").matcher(code);
        while (imports.find()) {
            holds(imports.group(1).equals("java.util.Arrays"), "no import of " + imports.group(1));
        }
        holds(text.chars().allMatch(c -> c == '\n' || c >= 32 && c < 127), "plain signs alone");
        int length = 0;
        for (String line : code.split("\n")) {
            boolean begins = line.matches(" {4}(    )?(public |private |static |)+[a-zA-Z\\[\\]]+ [a-zA-Z]+\\(.*\\{");
            length = begins ? 0 : length + 1;
            holds(length <= 60 || !line.matches(" {4}(    )?\\}"), "a method is at most sixty lines: " + line);
        }
    }

    /** All calls of a run live in one room: whatever is needed is made with the object. */
    private static void noObjectsInCalls(String text) {
        for (String line : withoutComments(text).split("\n")) {
            if (line.contains("new ")) {
                holds(line.matches(" +private final .*= new .*;"), "nothing is made but with the object: " + line.trim());
            }
        }
    }

    /** What is made with an object is all that it ever has: a thousand of them must find room. */
    private static void theRoomOfAnObject() {
        Set<Object> seen = Collections.newSetFromMap(new IdentityHashMap<>());
        long elements = roomOf(new BenchTimes(), seen);
        holds(seen.size() <= 600, "a thousand times " + seen.size() + " objects and arrays are at most 600,000");
        holds(elements <= 7300, "a thousand times " + elements + " fields and elements are at most 7.3 million");
    }

    private static long roomOf(Object object, Set<Object> seen) {
        if (object == null || !seen.add(object)) {
            return 0;
        }
        long elements = 0;
        if (object.getClass().isArray()) {
            elements = Array.getLength(object);
            boolean plain = object.getClass().getComponentType().isPrimitive();
            for (int i = 0; !plain && i < Array.getLength(object); i++) {
                elements += roomOf(Array.get(object, i), seen);
            }
            return elements;
        }
        for (Field field : object.getClass().getDeclaredFields()) {
            if (!Modifier.isStatic(field.getModifiers())) {
                elements += 1 + (field.getType().isPrimitive() ? 0 : roomOf(valueOf(field, object), seen));
            }
        }
        return elements;
    }

    private static Object valueOf(Field field, Object object) {
        try {
            field.setAccessible(true);
            return field.get(object);
        } catch (IllegalAccessException e) {
            throw new IllegalStateException(e);
        }
    }
}
