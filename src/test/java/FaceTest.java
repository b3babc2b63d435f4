import java.lang.reflect.Constructor;
import java.lang.reflect.Field;
import java.lang.reflect.Method;
import java.lang.reflect.Modifier;
import java.nio.file.Files;
import java.nio.file.Path;
import java.util.Arrays;
import java.util.HashSet;
import java.util.Set;
import java.util.TreeSet;
import java.util.regex.Pattern;

/** The public face of the document, and what can be seen of the rules of LANGUAGE.md. */
public final class FaceTest {
    private static final Check C = new Check();
    private static final String[] METHODS = {
        "int home(int,int,int,int)", "int faults(int,int)", "int points(int)",
        "int law(int,int,int,int,int,int,int,int)", "int force(int,int)", "int like(int,int,int)",
        "int strike(int)", "int days(int)", "int head(int,int,int)", "int let(int,int)",
        "int ask(int)", "int open(int)", "int appeal(int)", "int entry(int,int)", "int latest(int)",
        "int due(int,int)", "int pay(int,int)", "int owed(int,int)", "int count(int)", "long trace()"};
    private static final String[] FORBIDDEN = {
        "\\bthrows?\\b", "\\btry\\b", "\\bcatch\\b", "\\bsynchronized\\b", "\\bassert\\b", "->", "::",
        "\\bimport\\b", "\\bpackage\\b", "\\bSystem\\b", "Exact\\b", "\\bstatic\\s*\\{", "[^\\x00-\\xff]"};
    /** What LANGUAGE.md leaves of these words: the lists, arraycopy, and arrows of a switch. */
    private static final String ALLOWED =
            "\\bimport java\\.util\\.(ArrayList|Arrays|Iterator|List);|\\bSystem\\.arraycopy\\b"
            + "|\\b(case [^:;{}]*|default\\s*)->";

    public static void main(String[] args) throws Exception {
        Class<?> face = FairRents.class;
        C.holds("public and final", face.getModifiers() == (Modifier.PUBLIC | Modifier.FINAL));
        constructors(face);
        constants(face);
        methods(face);
        for (Class<?> inside : face.getDeclaredClasses()) {
            int m = inside.getModifiers();
            C.holds(inside.getSimpleName() + " is static and not on the face",
                    Modifier.isStatic(m) && !Modifier.isPublic(m) && !Modifier.isProtected(m));
            fewEnough(inside);
        }
        fewEnough(face);
        C.holds("some twelve classes", face.getDeclaredClasses().length <= 12);
        source(Files.readString(Path.of(args[0])));
        C.end();
    }

    private static void constructors(Class<?> face) {
        Constructor<?>[] made = face.getDeclaredConstructors();
        C.is("constructors", made.length, 1);
        C.holds("public FairRents()", made[0].getParameterCount() == 0
                && Modifier.isPublic(made[0].getModifiers()));
    }

    private static void constants(Class<?> face) throws Exception {
        Set<String> open = new TreeSet<>();
        for (Field field : face.getDeclaredFields()) {
            int m = field.getModifiers();
            if (Modifier.isStatic(m)) {
                C.holds(field.getName() + " is final", Modifier.isFinal(m));
            }
            if (!Modifier.isPrivate(m)) {
                C.holds(field.getName() + " is an int constant of the face",
                        m == (Modifier.PUBLIC | Modifier.STATIC | Modifier.FINAL)
                        && field.getType() == int.class);
                open.add(field.getName() + " = " + field.getInt(null));
            }
        }
        Set<String> due = new TreeSet<>(Arrays.asList(
                "BAD = -1", "STATE = -2", "FULL = -3", "NONE = -9", "NO = -1000000000"));
        C.holds("constants " + open, open.equals(due));
    }

    private static void methods(Class<?> face) {
        Set<String> open = new TreeSet<>();
        Set<String> names = new HashSet<>();
        for (Method method : face.getDeclaredMethods()) {
            if (!Modifier.isPrivate(method.getModifiers())) {
                C.holds(method.getName() + " is public", method.getModifiers() == Modifier.PUBLIC);
                open.add(told(method));
                names.add(method.getName());
            }
        }
        C.holds("methods " + open, open.equals(new TreeSet<>(Arrays.asList(METHODS))));
        hidden(face, names);
        for (Class<?> inside : face.getDeclaredClasses()) {
            hidden(inside, names);
        }
    }

    private static String told(Method method) {
        StringBuilder text = new StringBuilder(method.getReturnType() + " " + method.getName() + "(");
        for (int i = 0; i < method.getParameterCount(); i++) {
            text.append(i == 0 ? "" : ",").append(method.getParameterTypes()[i]);
        }
        return text.append(")").toString();
    }

    private static void hidden(Class<?> of, Set<String> publicNames) {
        for (Method method : of.getDeclaredMethods()) {
            if (Modifier.isPrivate(method.getModifiers())) {
                C.holds(method.getName() + " bears no public name", !publicNames.contains(method.getName()));
            }
            if (!publicNames.contains(method.getName())) {
                C.holds(method.getName() + " takes at most seven", method.getParameterCount() <= 7);
            }
        }
    }

    private static void fewEnough(Class<?> of) {
        int fields = 0;
        for (Field field : of.getDeclaredFields()) {
            fields += Modifier.isStatic(field.getModifiers()) ? 0 : 1;
        }
        C.holds(of.getSimpleName() + " has some twenty fields", fields <= 22);
    }

    private static void source(String text) {
        String code = text.replaceAll("(?s)/\\*.*?\\*/", "").replaceAll("//[^\n]*", "")
                .replaceAll(ALLOWED, "");
        for (String word : FORBIDDEN) {
            C.holds("no " + word, !Pattern.compile(word).matcher(code).find());
        }
    }
}
