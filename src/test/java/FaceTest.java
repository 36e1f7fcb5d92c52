import java.io.IOException;
import java.lang.reflect.Array;
import java.lang.reflect.Executable;
import java.lang.reflect.Field;
import java.lang.reflect.Method;
import java.lang.reflect.Modifier;
import java.nio.file.Files;
import java.nio.file.Path;
import java.util.ArrayDeque;
import java.util.Collections;
import java.util.Deque;
import java.util.IdentityHashMap;
import java.util.Set;
import java.util.TreeSet;
import java.util.regex.Matcher;
import java.util.regex.Pattern;

/** The class has the document's face and no other, and keeps to what LANGUAGE.md leaves of Java. */
public final class FaceTest {
    private static final String FACE = """
            boolean feast(int, boolean)
            int working(int)
            int after(int, int, boolean)
            int feed(int, int, int, int, int)
            int form(int)
            int notice(int, int, int, int)
            int fault()
            int where()
            int lacks()
            int field(int, int, int)
            int fields(int)
            long value(int, int)
            int about(int, int)
            int says(int, int, int, int)
            boolean corrects(int, int)
            boolean renames(int, long, long)
            boolean strikes(int, long)
            int issue(int, int, int, int)
            int issued(int, int)
            int printed(int, int)
            int law(int, int, int)
            int source(int, int, int)
            int isVoid(int, int)
            int changes(int, int)
            int find(long, int)
            int found(int)
            int struck(long, int)
            int undo()
            int count(int)
            int trouble()
            """;
    private static final String[] NOT_IN_THE_LANGUAGE = {
        "throw", "throws", "try", "catch", "synchronized", "assert", "->", "::", "hashCode", "toString",
        "java\\.(?!util\\.Arrays;)", "System\\.(?!arraycopy)", "static \\{", "volatile", "Object", "HashMap", "Thread"};
    // Rule 4, the part of it that the class uses.
    private static final Set<String> LIBRARY = Set.of("Math.min", "Math.max", "Arrays.fill", "Integer.MIN_VALUE", "Integer.MAX_VALUE");
    private static final int LONGEST_METHOD = 60;
    // Rule 12 and the room of a run: a house is far below these, so that hundreds of them go in.
    private static final int MOST_OBJECTS = 1_000;
    private static final int MOST_ELEMENTS = 12_000;
    // In place of a static field, which is no part of an object.
    private static final Object STATIC = new Object();
    private static final Due due = new Due();

    public static void main(String[] args) throws IOException {
        face();
        inside();
        room();
        if (args.length > 0) {
            language(Files.readString(Path.of(args[0])));
        }
        due.end();
    }

    private static String signature(Method m) {
        StringBuilder s = new StringBuilder(m.getReturnType() + " " + m.getName() + "(");
        for (Class<?> type : m.getParameterTypes()) {
            s.append(s.charAt(s.length() - 1) == '(' ? "" : ", ").append(type);
        }
        return s + ")";
    }

    private static void face() {
        due.part("the face");
        Class<?> c = GazetteHouse.class;
        due.is("public and final", c.getModifiers() & (Modifier.PUBLIC | Modifier.FINAL), Modifier.PUBLIC | Modifier.FINAL);
        Set<String> want = new TreeSet<>(FACE.lines().toList());
        Set<String> names = new TreeSet<>();
        Set<String> got = new TreeSet<>();
        for (Method m : c.getDeclaredMethods()) {
            if (!Modifier.isPrivate(m.getModifiers())) {
                got.add(signature(m));
                names.add(m.getName());
                due.is(m + " is public and not static", m.getModifiers(), Modifier.PUBLIC);
            }
        }
        due.is("methods " + got + " for " + want, got.equals(want), true);
        for (Method m : c.getDeclaredMethods()) {
            if (Modifier.isPrivate(m.getModifiers())) {
                due.is(m + " has a name of the face", names.contains(m.getName()), false);
            }
        }
        for (Field f : c.getDeclaredFields()) {
            boolean named = f.getName().equals("NONE") || f.getName().equals("NO_LAW");
            due.is(f + " is a constant of the face, or private", Modifier.isPublic(f.getModifiers()), named);
            due.is(f + " is private, or a constant of the face", Modifier.isPrivate(f.getModifiers()), !named);
        }
        due.is("constructors", c.getDeclaredConstructors().length, 1);
        due.is("public constructors", c.getConstructors().length, 1);
    }

    private static void inside() {
        due.part("the classes inside");
        Class<?>[] classes = GazetteHouse.class.getDeclaredClasses();
        due.is("at most twelve classes", classes.length + 1 <= 12, true);
        for (Class<?> c : classes) {
            due.is(c + " is static", Modifier.isStatic(c.getModifiers()), true);
            due.is(c + " has no class inside", c.getDeclaredClasses().length, 0);
            int fields = 0;
            for (Field f : c.getDeclaredFields()) {
                boolean isStatic = Modifier.isStatic(f.getModifiers());
                fields += isStatic ? 0 : 1;
                due.is(f + ": what is static is final", !isStatic || Modifier.isFinal(f.getModifiers()), true);
            }
            due.is(c + " has at most twenty fields", fields <= 20, true);
            due.is(c + " is not public or protected", c.getModifiers() & (Modifier.PUBLIC | Modifier.PROTECTED), 0);
            for (Executable m : c.getDeclaredMethods()) {
                due.is(m + " takes at most seven", m.getParameterCount() <= 7, true);
            }
        }
    }

    private static void language(String source) {
        due.part("the language");
        String code = source.replaceAll("(?s)/\\*.*?\\*/", "").replaceAll("//[^\n]*", "");
        for (String word : NOT_IN_THE_LANGUAGE) {
            String whole = Character.isLetter(word.charAt(0)) ? "\\b" + word + (word.matches("\\w+") ? "\\b" : "") : word;
            due.is("the code has " + word, Pattern.compile(whole).matcher(code).find(), false);
        }
        due.is("signs beyond 127", source.chars().anyMatch(c -> c > 127), false);
        Matcher used = Pattern.compile("\\b[A-Z][A-Za-z]*[a-z][A-Za-z]*\\.\\w+").matcher(code.replaceAll("(?m)^import .*$", ""));
        while (used.find()) {
            due.is("the library that is left has " + used.group(), LIBRARY.contains(used.group()), true);
        }
        Matcher method = Pattern.compile("(?ms)^( {4}| {8})(?:\\w[\\w\\[\\] ]*)?\\w+\\([^()]*\\) \\{\n(.*?)^\\1\\}$").matcher(code);
        int methods = 0;
        while (method.find()) {
            methods++;
            due.is("a method of at most " + LONGEST_METHOD + " lines:" + method.group().lines().findFirst().orElse(""),
                    method.group().lines().count() <= LONGEST_METHOD, true);
        }
        due.is("methods that were measured are most of the file's", methods > 80, true);
    }

    /** What a new house is made of is all that it is ever made of. */
    private static void room() {
        due.part("the room");
        GazetteHouse x = new GazetteHouse();
        long[] atFirst = sizeOf(x);
        due.is(atFirst[0] + " objects of a house", atFirst[0] <= MOST_OBJECTS, true);
        due.is(atFirst[1] + " fields and elements of a house", atFirst[1] <= MOST_ELEMENTS, true);
        Due.form(x, "a:word;b:day;c:span 3 work b");
        for (int i = 0; i < 60; i++) {
            int n = Due.notice(x, 0, "a=x;b=" + i, 1, i);
            x.says(n, i % 40, i, i);
            x.corrects(n, n - 1);
            x.renames(n, 1 + i % 26, 1 + (i + 1) % 26);
            x.strikes(n, 1);
            x.feast(i, true);
            x.issue(i, i + 1, 1, 10);
            x.find(1, i);
            x.undo();
        }
        long[] atLast = sizeOf(x);
        due.is("objects behind 512 calls and more", atLast[0], atFirst[0]);
        due.is("fields and elements behind them", atLast[1], atFirst[1]);
    }

    /** How many objects and arrays are reached from one, and how many fields and elements these have. */
    private static long[] sizeOf(Object root) {
        Set<Object> seen = Collections.newSetFromMap(new IdentityHashMap<>());
        Deque<Object> open = new ArrayDeque<>();
        seen.add(root);
        open.add(root);
        long elements = 0;
        while (!open.isEmpty()) {
            Object o = open.poll();
            boolean isArray = o.getClass().isArray();
            int parts = isArray ? Array.getLength(o) : o.getClass().getDeclaredFields().length;
            for (int i = 0; i < parts; i++) {
                Object part = isArray ? Array.get(o, i) : partOf(o, i);
                elements += part == STATIC ? 0 : 1;
                boolean isObject = part != null && part != STATIC && !(part instanceof Number || part instanceof Boolean);
                if (isObject && seen.add(part)) {
                    open.add(part);
                }
            }
        }
        return new long[] {seen.size(), elements};
    }

    private static Object partOf(Object o, int i) {
        Field f = o.getClass().getDeclaredFields()[i];
        if (Modifier.isStatic(f.getModifiers())) {
            return STATIC;
        }
        f.setAccessible(true);
        try {
            return f.get(o);
        } catch (IllegalAccessException e) {
            throw new IllegalStateException(e);
        }
    }
}
