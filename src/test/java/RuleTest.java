import java.io.PrintWriter;
import java.io.StringWriter;
import java.lang.management.ManagementFactory;
import java.lang.reflect.Field;
import java.lang.reflect.Method;
import java.lang.reflect.Modifier;
import java.nio.file.Path;
import java.util.ArrayList;
import java.util.List;
import java.util.Map;
import java.util.Optional;
import java.util.Set;
import java.util.TreeMap;
import java.util.TreeSet;
import java.util.regex.Matcher;
import java.util.regex.Pattern;
import java.util.spi.ToolProvider;

/** What of ../shared/LANGUAGE.md the compiled class can tell: whom it calls, how deep, what it makes, what it keeps. */
public final class RuleTest {
    private static final Check check = new Check("RuleTest");
    /** Of rule 4's list, what the class uses; who adds to it looks at the list first. */
    private static final Set<String> LIBRARY = Set.of("java/lang/Object.<init>", "java/lang/Integer.bitCount", "java/lang/Math.abs",
        "java/lang/Math.max", "java/lang/Math.min", "java/lang/String.charAt", "java/lang/String.length", "java/lang/System.arraycopy");
    private static final Set<Class<?>> CONSTANTS = Set.of(int.class, long.class, boolean.class, char.class, String.class,
        int[].class, long[].class, char[].class, byte[].class);
    private static final Pattern CLASS = Pattern.compile("(?:\\w+ )*class (\\S+) \\{");
    private static final Pattern METHOD = Pattern.compile("  (.*?)([\\w$.]+)\\((.*)\\);");
    private static final Pattern CALL = Pattern.compile("invoke\\w+ .*// (?:Interface)?Method (\\S+):(\\(\\S*)");

    private static final Map<String, Set<String>> calls = new TreeMap<>();
    private static final Map<String, String> code = new TreeMap<>();

    public static void main(String[] args) throws Exception {
        Optional<ToolProvider> javap = ToolProvider.findFirst("javap");
        if (javap.isPresent()) {
            code(javap.get());
        } else {
            System.out.println("RuleTest: there is no javap here, so nobody looks at who calls whom");
        }
        room();
        fields();
        check.finish();
    }

    private static void code(ToolProvider javap) throws Exception {
        read(listing(javap));
        check.same("methods were read", calls.size() > 100, true);
        library();
        recursion();
        depth();
        made();
    }

    private static List<Class<?>> classes() {
        List<Class<?>> all = new ArrayList<>(List.of(OneBack.class.getDeclaredClasses()));
        all.add(OneBack.class);
        return all;
    }

    private static String listing(ToolProvider javap) throws Exception {
        String folder = Path.of(OneBack.class.getProtectionDomain().getCodeSource().getLocation().toURI()).toString();
        List<String> call = new ArrayList<>(List.of("-p", "-c", "-s", "-cp", folder));
        classes().forEach(c -> call.add(c.getName()));
        StringWriter text = new StringWriter();
        int wrong = javap.run(new PrintWriter(text), new PrintWriter(System.out), call.toArray(new String[0]));
        check.same("javap", wrong, 0);
        return text.toString();
    }

    /** Each method is named by class, name and descriptor, as calls name it. */
    private static void read(String listing) {
        String owner = "";
        String name = "";
        String method = "";
        for (String line : listing.split("\n")) {
            Matcher m = CLASS.matcher(line);
            if (m.matches()) {
                owner = m.group(1);
                continue;
            }
            m = METHOD.matcher(line);
            if (line.equals("  static {};")) {
                name = "<clinit>";
                method = "";
            } else if (m.matches()) {
                name = m.group(2).equals(owner) ? "<init>" : m.group(2);
                method = "";
            } else if (line.startsWith("    descriptor: (")) {
                method = owner + "." + name + line.substring("    descriptor: ".length());
                calls.put(method, new TreeSet<>());
                code.put(method, "");
            } else if (!method.isEmpty()) {
                code.merge(method, line + "\n", String::concat);
                m = CALL.matcher(line);
                if (m.find()) {
                    String called = m.group(1).replace("\"", "");
                    calls.get(method).add((called.contains(".") ? "" : owner + ".") + called + m.group(2));
                }
            }
        }
    }

    /** Rules 4 and 6. */
    private static void library() {
        calls.forEach((method, all) -> {
            for (String called : all) {
                boolean known = calls.containsKey(called) || LIBRARY.contains(called.substring(0, called.indexOf('(')));
                check.same(method + " calls " + called, known, true);
            }
            boolean refused = Pattern.compile("\\b(athrow|monitorenter|invokedynamic|Exception table)\\b").matcher(code.get(method)).find();
            check.same(method + " throws, catches or locks", refused, false);
        });
    }

    /** Rule 8: who calls himself is private and static; none calls himself by way of another one. */
    private static void recursion() {
        Set<String> own = new TreeSet<>();
        for (Class<?> c : classes()) {
            for (Method m : c.getDeclaredMethods()) {
                if (Modifier.isStatic(m.getModifiers()) && Modifier.isPrivate(m.getModifiers())) {
                    own.add(c.getName() + "." + m.getName());
                }
            }
        }
        for (String method : calls.keySet()) {
            boolean self = calls.get(method).contains(method);
            check.same(method + " calls itself", !self || own.contains(method.substring(0, method.indexOf('('))), true);
        }
    }

    /** Rule 11: calls that are no recursion go at most eight deep. */
    private static void depth() {
        for (String method : calls.keySet()) {
            List<String> way = deepest(method, new ArrayList<>());
            check.same("how deep goes " + way, way.size() <= 8, true);
        }
    }

    private static List<String> deepest(String method, List<String> above) {
        List<String> here = new ArrayList<>(above);
        here.add(method);
        check.same("a round of calls " + here, above.contains(method), false);
        List<String> best = here;
        for (String called : calls.get(method)) {
            if (calls.containsKey(called) && !called.equals(method) && !above.contains(method)) {
                List<String> way = deepest(called, here);
                best = way.size() > best.size() ? way : best;
            }
        }
        return best;
    }

    /** Rule 12: rows are made by constructors and used again; an image is made when it is first asked for. */
    private static void made() {
        code.forEach((method, lines) -> {
            boolean makes = Pattern.compile(": (new|newarray|anewarray|multianewarray) ").matcher(lines).find();
            boolean may = method.contains(".<init>") || method.equals("OneBack.image(I)Z") || method.contains(".<clinit>");
            check.same(method + " makes something", makes && !may, false);
        });
    }

    /** All that one object makes in its 512 calls is its own rows and those of three images. */
    private static void room() {
        var thread = (com.sun.management.ThreadMXBean) ManagementFactory.getThreadMXBean();
        long used = 0;
        // The first time classes are loaded, too, so the second one counts.
        for (int time = 0; time < 2; time++) {
            long before = thread.getCurrentThreadAllocatedBytes();
            busyObject();
            used = thread.getCurrentThreadAllocatedBytes() - before;
        }
        check.same("bytes made by one object: " + used, used > 0 && used < 64 * 1024, true);
    }

    /** 512 calls, those that keep something most of all. */
    private static void busyObject() {
        OneBack x = new OneBack();
        for (int i = 0; i < 64; i++) {
            x.feed(0x74686965, 0x6620333b, 0x20202020, 0x20202020, 0x20202020);
            x.image(i % 3);
            x.text(i % 4, i < 8 ? OneBack.NONE : i / 4 % 2);
            x.drawn(0, 0, i, 30, 1);
            x.again(i % 3);
            x.haul(0, 0, 9, 99, 0);
            x.wealth(0, 0, 0, 0, i % 5);
            x.end(0);
        }
    }

    /** Rules 5 and 11. */
    private static void fields() {
        for (Class<?> c : classes()) {
            int own = 0;
            for (Field f : c.getDeclaredFields()) {
                if (!Modifier.isStatic(f.getModifiers())) {
                    own++;
                } else {
                    check.same(f + " is a constant", Modifier.isFinal(f.getModifiers()) && CONSTANTS.contains(f.getType()), true);
                }
            }
            check.same("fields of " + c, own <= 20, true);
            for (Method m : c.getDeclaredMethods()) {
                check.same("parameters of " + m, m.getParameterCount() <= 7, true);
            }
        }
    }
}
