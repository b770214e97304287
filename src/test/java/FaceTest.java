import java.lang.reflect.Constructor;
import java.lang.reflect.Field;
import java.lang.reflect.Method;
import java.lang.reflect.Modifier;
import java.nio.file.Files;
import java.nio.file.Path;
import java.util.Set;
import java.util.TreeSet;
import java.util.regex.Matcher;
import java.util.regex.Pattern;

/** The public face, and what of the language's rules a look at the source can tell. */
public final class FaceTest {
    private static final Check check = new Check("FaceTest");
    private static final String FACE = "feed(IIIII)I end(I)I text(II)I fault(I)I town(II)I house(IIII)I law(II)I deed(III)I "
        + "stop(III)I state(IIIII)I goods(IIIIIII)I aid(II)I carry(I)I round(II)I meets(III)I sight(II)I hands(IIIII)I "
        + "moved(IIZ)I quit(IIIII)I alms(IZ)I prize(III)I rest(II)I share(IIZ)I even(II)I drawn(IIIII)I wealth(IIIII)I "
        + "haul(IIIII)I crew(IIZ)I pairs(II)I count(I)I image(I)Z again(I)Z";
    private static final String[] NEVER = {"throw", "try", "catch", "synchronized", "assert", "import", "package",
        "Exception", "Error", "Thread", "Random", "->", "::", "Exact", "finalize", "hashCode", "native"};

    public static void main(String[] args) throws Exception {
        face();
        source();
        check.finish();
    }

    private static String letter(Class<?> type) {
        return type == int.class ? "I" : type == boolean.class ? "Z" : "?";
    }

    private static void face() {
        Set<String> due = new TreeSet<>(Set.of(FACE.split(" ")));
        Set<String> got = new TreeSet<>();
        Set<String> names = new TreeSet<>();
        for (Method m : OneBack.class.getDeclaredMethods()) {
            if (Modifier.isPublic(m.getModifiers())) {
                StringBuilder s = new StringBuilder(m.getName() + "(");
                for (Class<?> type : m.getParameterTypes()) {
                    s.append(letter(type));
                }
                got.add(s + ")" + letter(m.getReturnType()));
                names.add(m.getName());
            } else {
                check.same(m.getName() + " is private", Modifier.isPrivate(m.getModifiers()), true);
            }
        }
        check.same("the face: " + got, got.equals(due), true);
        for (Method m : OneBack.class.getDeclaredMethods()) {
            boolean borrowed = !Modifier.isPublic(m.getModifiers()) && names.contains(m.getName());
            check.same(m + " bears no public name", borrowed, false);
        }
        for (Class<?> inner : OneBack.class.getDeclaredClasses()) {
            check.same(inner.getName() + " is static", Modifier.isStatic(inner.getModifiers()), true);
            for (Method m : inner.getDeclaredMethods()) {
                check.same(m + " bears no public name", names.contains(m.getName()), false);
            }
        }
        check.same("classes", OneBack.class.getDeclaredClasses().length < 12, true);
        for (Field f : OneBack.class.getDeclaredFields()) {
            boolean isNone = f.getName().equals("NONE") && Modifier.isPublic(f.getModifiers());
            check.same(f + " is private or NONE", isNone || Modifier.isPrivate(f.getModifiers()), true);
            check.same(f + " is final", Modifier.isFinal(f.getModifiers()), true);
        }
        for (Constructor<?> c : OneBack.class.getDeclaredConstructors()) {
            check.same("constructor " + c, c.getParameterCount() == 0 && Modifier.isPublic(c.getModifiers()), true);
        }
        check.same("public and final", OneBack.class.getModifiers(), Modifier.PUBLIC | Modifier.FINAL);
    }

    private static void source() throws Exception {
        String code = Files.readString(Path.of("src/main/java/OneBack.java"));
        code = code.replaceAll("(?s)/\\*.*?\\*/", "").replaceAll("//[^\n]*", "").replaceAll("\"[^\"\n]*\"", "\"\"");
        for (String word : NEVER) {
            String edge = Character.isLetter(word.charAt(0)) ? "\\b" : "";
            Matcher m = Pattern.compile(edge + Pattern.quote(word)).matcher(code);
            check.same("'" + word + "' in the source", m.find(), false);
        }
        int line = 0;
        int start = 0;
        for (String s : code.split("\n")) {
            line++;
            if (s.matches("( {4}| {8})[a-zA-Z].*\\) \\{")) {
                start = line;
            }
            if (s.matches(" {4}\\}| {8}\\}") && start > 0) {
                check.same("lines of the method at " + start, line - start <= 60, true);
                start = 0;
            }
        }
    }
}
