import java.nio.ByteBuffer;
import java.nio.charset.StandardCharsets;
import java.nio.file.Files;
import java.nio.file.Path;
import java.lang.reflect.Method;
import java.lang.reflect.Modifier;
import java.util.Arrays;
import java.util.List;
import java.util.regex.Matcher;
import java.util.regex.Pattern;
import java.util.stream.Stream;

/** README.md against the class and the tests as they stand: its example, line by line, the calls, the tests that it names. */
public final class ReadmeTest {
    private static final Check check = new Check("ReadmeTest");
    private static final Path TESTS = Path.of("src/test/java");
    private static final int[] answers = new int[20];
    private static int answered = 0;

    public static void main(String[] args) throws Exception {
        String readme = Files.readString(Path.of("README.md"));
        example();
        exampleStands(readme);
        calls(readme);
        tests(readme);
        check.finish();
    }

    private static void see(int answer) {
        answers[answered] = answer;
        answered++;
    }

    // The lines from one mark to the next stand in README.md, and the number behind each answer is what it is.
    // example
    static int tell(OneBack x, int sort, String text) {
        byte[] bytes = text.getBytes(StandardCharsets.ISO_8859_1);
        ByteBuffer numbers = ByteBuffer.wrap(Arrays.copyOf(bytes, (bytes.length + 19) / 20 * 20));
        while (numbers.hasRemaining()) {
            x.feed(numbers.getInt(), numbers.getInt(), numbers.getInt(), numbers.getInt(), numbers.getInt());
        }
        x.end(bytes.length);
        return x.text(sort, OneBack.NONE);
    }
    // end

    private static void example() {
        // example
        OneBack x = new OneBack();
        see(tell(x, 0, "has 0 0 5;needs 1 0 2;watch 1 3;thief 4;"));                   // 0: the first town
        see(tell(x, 1, "rate 2;catch 3;"));                                            // 0: the first law
        see(tell(x, 2, "take 0 0 0;take 0 0 0;give 0 1 0;night;take 0 0 0;"));         // 0: the first nights
        see(x.stop(0, 0, 0));                                                          // 4: deed 4 can't be
        see(x.state(0, 0, 0, 4, 2));                                                   // 1: for thief 0 is caught then
        see(x.state(0, 0, 0, 4, 1));                                                   // 1: one thing is lacked still
        see(x.goods(0, 0, 0, 4, 0, OneBack.NONE, 0));                                  // 1: and he has it in his bag
        see(x.aid(0, 1));                                                              // 2: so many were to be taken at first
        see(tell(x, 1, "rate 6;"));                                                    // -1: a fault
        see(x.fault(0));                                                               // 2: a number that can't be
        see(x.fault(1));                                                               // 5: where it stands
        see(x.count(1));                                                               // 1: there is still one law
        // end
    }

    /** In README.md the answers are not seen to, but told behind the line. */
    private static void exampleStands(String readme) throws Exception {
        String own = Files.readString(TESTS.resolve("ReadmeTest.java"));
        Matcher part = Pattern.compile("(?s)\\n *// example\\n(.*?)\\n *// end\\n").matcher(own);
        List<String> there = readme.lines().map(ReadmeTest::plain).toList();
        int at = 0;
        while (part.find()) {
            for (String line : part.group(1).split("\n")) {
                String due = plain(line.replaceAll("\\bsee\\((.*)\\);", "$1;"));
                check.same("README.md has the line: " + due, there.contains(due), true);
                Matcher answer = Pattern.compile("\\bsee\\(.*// (-?[0-9]+): ").matcher(line);
                if (answer.find()) {
                    check.same(due, answers[at], Integer.parseInt(answer.group(1)));
                    at++;
                }
            }
        }
        check.same("answers of the example", at == answered && at > 0, true);
    }

    /** Where a line begins and how far its comment stands behind it is all one. */
    private static String plain(String line) {
        return line.trim().replaceAll(" +", " ");
    }

    private static void calls(String readme) {
        for (Method m : OneBack.class.getDeclaredMethods()) {
            if (Modifier.isPublic(m.getModifiers())) {
                check.same("README.md tells of " + m.getName(), readme.contains("`" + m.getName() + "`"), true);
            }
        }
    }

    /** Each file of the tests is named, and each name is that of a file. */
    private static void tests(String readme) throws Exception {
        try (Stream<Path> all = Files.list(TESTS)) {
            for (Path file : all.toList()) {
                String name = file.getFileName().toString().replace(".java", "");
                check.same("README.md tells of " + name, readme.contains("`" + name + "`"), true);
            }
        }
        Matcher named = Pattern.compile("`(\\w+Test)`").matcher(readme);
        while (named.find()) {
            check.same("there is a " + named.group(1), Files.exists(TESTS.resolve(named.group(1) + ".java")), true);
        }
    }
}
