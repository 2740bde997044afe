import java.io.IOException;
import java.lang.reflect.Constructor;
import java.lang.reflect.Field;
import java.lang.reflect.Method;
import java.lang.reflect.Modifier;
import java.nio.file.Files;
import java.nio.file.Path;
import java.util.Set;
import java.util.TreeSet;
import java.util.regex.Matcher;
import java.util.regex.Pattern;

/** The public face, and the rules of the language that a look at the source can tell; its argument is the source. */
public final class FaceTest {
    private static final Set<String> METHODS = Set.of("int write(int)", "int wipe()", "int fault()", "int watch()",
            "int series(int,int)", "int past(int,int)", "int tell(int,int)", "int gap(int)", "int clear(int)",
            "int set(int,int,int)", "int chances(int)", "int undo()", "int ahead(int,int,int,int)",
            "int rings(int,int)", "int least(int,int)", "long length(int,boolean)", "int would(int,int,int)",
            "int ranked(int)", "int judge(int,long)", "int see(int,int,int,int)", "int unsee()", "int which()",
            "int share(int,int,boolean)", "int lost(int,int,int,int,boolean)", "long seed(long)", "int drawn(int)",
            "int keep(int)", "int again(int)", "int count(int)");
    private static final Set<String> CONSTANTS = Set.of("UNKNOWN", "OUTSIDE", "STATE", "FULL", "NONE");
    private static final Pattern FORBIDDEN = Pattern.compile("\\b(throws?|try|catch|synchronized|assert|package|"
            + "\\w+Exact)\\b|\\b(boolean equals|int hashCode|String toString) *\\(|\\bstatic *\\{|::|->|"
            + "\\bimport\\b(?! java\\.util\\.(ArrayList|List|Arrays|Iterator);)");
    private static final Pattern NAME = Pattern.compile("(?<![\\w.])[A-Z]\\w*[a-z]\\w*(\\.[a-z]\\w*)?");
    private static final Set<String> WHOLE_CLASSES = Set.of("String", "StringBuilder", "Integer", "Long", "ArrayList",
            "List", "Iterator", "Iterable", "Comparable", "Override");
    private static final Set<String> LIBRARY = Set.of("Math.abs", "Math.max", "Math.min", "Math.floorDiv",
            "Math.floorMod", "System.arraycopy", "Arrays.copyOf", "Arrays.copyOfRange", "Arrays.fill");

    public static void main(String[] args) throws IOException {
        members();
        classes();
        source(Files.readString(Path.of(args[0])));
        Due.end("FaceTest");
    }

    private static void holds(String what, boolean holds) {
        Due.due(what, holds ? 1 : 0, 1);
    }

    private static void members() {
        holds("the class is public and final", CountWatch.class.getModifiers() == (Modifier.PUBLIC | Modifier.FINAL));
        Set<String> found = new TreeSet<>();
        Set<String> names = new TreeSet<>();
        for (Method m : CountWatch.class.getDeclaredMethods()) {
            if (m.getModifiers() == Modifier.PUBLIC) {
                found.add(signature(m));
                names.add(m.getName());
            } else {
                holds(m.getName() + " is private", Modifier.isPrivate(m.getModifiers()) || m.isSynthetic());
            }
        }
        holds("the methods of the face are " + found, found.equals(METHODS));
        privateNames(CountWatch.class, names);
        for (Class<?> c : CountWatch.class.getDeclaredClasses()) {
            privateNames(c, names);
        }
        Constructor<?>[] constructors = CountWatch.class.getDeclaredConstructors();
        holds("one public constructor", constructors.length == 1
                && constructors[0].getModifiers() == Modifier.PUBLIC && constructors[0].getParameterCount() == 0);
        for (Field f : CountWatch.class.getDeclaredFields()) {
            boolean constant = CONSTANTS.contains(f.getName()) && f.getType() == int.class
                    && f.getModifiers() == (Modifier.PUBLIC | Modifier.STATIC | Modifier.FINAL);
            holds(f.getName() + " is private or a constant", constant || Modifier.isPrivate(f.getModifiers())
                    || f.isSynthetic());
        }
    }

    private static void privateNames(Class<?> c, Set<String> face) {
        for (Method m : c.getDeclaredMethods()) {
            holds("private " + m.getName() + " bears no name of the face",
                    !Modifier.isPrivate(m.getModifiers()) || !face.contains(m.getName()));
        }
    }

    private static String signature(Method m) {
        StringBuilder types = new StringBuilder();
        for (Class<?> type : m.getParameterTypes()) {
            types.append(types.length() == 0 ? "" : ",").append(type.getName());
        }
        return m.getReturnType().getName() + " " + m.getName() + "(" + types + ")";
    }

    private static void classes() {
        Class<?>[] inside = CountWatch.class.getDeclaredClasses();
        holds("some twelve classes at most", inside.length <= 12);
        for (Class<?> c : inside) {
            int m = c.getModifiers();
            holds(c.getName() + " is static and not seen from outside", Modifier.isStatic(m)
                    && !Modifier.isPublic(m) && !Modifier.isProtected(m));
            int fields = 0;
            for (Field f : c.getDeclaredFields()) {
                fields += Modifier.isStatic(f.getModifiers()) ? 0 : 1;
                holds(f + " is static only if final", !Modifier.isStatic(f.getModifiers())
                        || Modifier.isFinal(f.getModifiers()));
            }
            holds(c.getName() + " has some twenty fields at most", fields <= 20);
        }
    }

    private static void source(String text) {
        String code = text.replaceAll("(?s)/\\*.*?\\*/", " ").replaceAll("//[^\n]*", " ")
                .replaceAll("'(\\\\.|[^'\\\\])'", "0").replaceAll("\"(\\\\.|[^\"\\\\])*\"", "\"\"");
        // The arrow of a switch stands behind a case or a default; any other is a lambda's.
        Matcher found = FORBIDDEN.matcher(code.replaceAll("\\b(case\\b[^;{}>]*|default *)->", ":"));
        while (found.find()) {
            holds("the source is without " + found.group(), false);
        }
        holds("the source is ASCII", code.chars().allMatch(c -> c < 128));
        Set<String> own = new TreeSet<>(Set.of("CountWatch"));
        for (Class<?> c : CountWatch.class.getDeclaredClasses()) {
            own.add(c.getSimpleName());
        }
        Matcher name = NAME.matcher(code);
        while (name.find()) {
            String first = name.group().replaceAll("\\..*", "");
            holds("the library has " + name.group(), own.contains(first) || WHOLE_CLASSES.contains(first)
                    || LIBRARY.contains(name.group()));
        }
    }
}
