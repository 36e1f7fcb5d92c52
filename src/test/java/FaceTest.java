import java.io.IOException;
import java.lang.reflect.Executable;
import java.lang.reflect.Field;
import java.lang.reflect.Method;
import java.lang.reflect.Modifier;
import java.nio.file.Files;
import java.nio.file.Path;
import java.util.Set;
import java.util.TreeSet;
import java.util.regex.Pattern;

/** The class has the document's face and no other, and keeps to what LANGUAGE.md leaves of Java. */
public final class FaceTest {
    private static final String FACE = """
            boolean feast(int, boolean)
            int working(int)
            int after(int, int, boolean)
            int feed(int, int, int, int, int)
            int form(int)
            int notice(int, int, int, int)
            int fault()
            int where()
            int lacks()
            int field(int, int, int)
            int fields(int)
            long value(int, int)
            int about(int, int)
            int says(int, int, int, int)
            boolean corrects(int, int)
            boolean renames(int, long, long)
            boolean strikes(int, long)
            int issue(int, int, int, int)
            int issued(int, int)
            int printed(int, int)
            int law(int, int, int)
            int source(int, int, int)
            int isVoid(int, int)
            int changes(int, int)
            int find(long, int)
            int found(int)
            int struck(long, int)
            int undo()
            int count(int)
            int trouble()
            """;
    private static final String[] NOT_IN_THE_LANGUAGE = {
        "throw", "throws", "try", "catch", "synchronized", "assert", "->", "::", "hashCode", "toString",
        "java\\.(?!util\\.Arrays;)", "System\\.(?!arraycopy)", "static \\{", "volatile", "Object", "HashMap", "Thread"};
    private static final Due due = new Due();

    public static void main(String[] args) throws IOException {
        face();
        inside();
        if (args.length > 0) {
            language(Files.readString(Path.of(args[0])));
        }
        due.end();
    }

    private static String signature(Method m) {
        StringBuilder s = new StringBuilder(m.getReturnType() + " " + m.getName() + "(");
        for (Class<?> type : m.getParameterTypes()) {
            s.append(s.charAt(s.length() - 1) == '(' ? "" : ", ").append(type);
        }
        return s + ")";
    }

    private static void face() {
        due.part("the face");
        Class<?> c = GazetteHouse.class;
        due.is("public and final", c.getModifiers() & (Modifier.PUBLIC | Modifier.FINAL), Modifier.PUBLIC | Modifier.FINAL);
        Set<String> want = new TreeSet<>(FACE.lines().toList());
        Set<String> names = new TreeSet<>();
        Set<String> got = new TreeSet<>();
        for (Method m : c.getDeclaredMethods()) {
            if (!Modifier.isPrivate(m.getModifiers())) {
                got.add(signature(m));
                names.add(m.getName());
                due.is(m + " is public and not static", m.getModifiers(), Modifier.PUBLIC);
            }
        }
        due.is("methods " + got + " for " + want, got.equals(want), true);
        for (Method m : c.getDeclaredMethods()) {
            if (Modifier.isPrivate(m.getModifiers())) {
                due.is(m + " has a name of the face", names.contains(m.getName()), false);
            }
        }
        for (Field f : c.getDeclaredFields()) {
            boolean named = f.getName().equals("NONE") || f.getName().equals("NO_LAW");
            due.is(f + " is a constant of the face, or private", Modifier.isPublic(f.getModifiers()), named);
            due.is(f + " is private, or a constant of the face", Modifier.isPrivate(f.getModifiers()), !named);
        }
        due.is("constructors", c.getDeclaredConstructors().length, 1);
        due.is("public constructors", c.getConstructors().length, 1);
    }

    private static void inside() {
        due.part("the classes inside");
        Class<?>[] classes = GazetteHouse.class.getDeclaredClasses();
        due.is("at most twelve classes", classes.length + 1 <= 12, true);
        for (Class<?> c : classes) {
            due.is(c + " is static", Modifier.isStatic(c.getModifiers()), true);
            due.is(c + " has no class inside", c.getDeclaredClasses().length, 0);
            int fields = 0;
            for (Field f : c.getDeclaredFields()) {
                boolean isStatic = Modifier.isStatic(f.getModifiers());
                fields += isStatic ? 0 : 1;
                due.is(f + ": what is static is final", !isStatic || Modifier.isFinal(f.getModifiers()), true);
            }
            due.is(c + " has at most twenty fields", fields <= 20, true);
            for (Executable m : c.getDeclaredMethods()) {
                due.is(m + " takes at most seven", m.getParameterCount() <= 7, true);
            }
        }
    }

    private static void language(String source) {
        due.part("the language");
        String code = source.replaceAll("(?s)/\\*.*?\\*/", "").replaceAll("//[^\n]*", "");
        for (String word : NOT_IN_THE_LANGUAGE) {
            String whole = Character.isLetter(word.charAt(0)) ? "\\b" + word + (word.matches("\\w+") ? "\\b" : "") : word;
            due.is("the code has " + word, Pattern.compile(whole).matcher(code).find(), false);
        }
        due.is("signs beyond 127", source.chars().anyMatch(c -> c > 127), false);
    }
}
