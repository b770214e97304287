import java.lang.reflect.Method;
import java.util.Random;

/** Rows of calls by chance, wild numbers among them: no call throws, and the same calls answer the same. */
public final class RoughTest {
    private static final Check check = new Check("RoughTest");
    private static final String[] WORDS = {"houses", "has", "needs", "watch", "passes", "weight", "worth", "son", "thief",
        "rate", "catch", "double", "take", "give", "set", "night", "given", "left", ";", ";", " ", "x", "?", "\n"};
    private static final int[] WILD = {Integer.MIN_VALUE, Integer.MAX_VALUE, -1000, -2, -1, 0, 1, 2, 7, 1 << 16, 1 << 31 - 1};

    public static void main(String[] args) throws Exception {
        Method[] all = OneBack.class.getDeclaredMethods();
        java.util.Arrays.sort(all, (a, b) -> a.getName().compareTo(b.getName()));
        for (int seed = 0; seed < 400; seed++) {
            long first = run(seed, all);
            check.same("run " + seed, (int) (first ^ run(seed, all)), 0);
        }
        check.finish();
    }

    private static long run(int seed, Method[] all) throws Exception {
        Random random = new Random(seed);
        OneBack x = new OneBack();
        long sum = 0;
        int calls = 0;
        while (calls < 500) {
            calls++;
            Method m = all[random.nextInt(all.length)];
            if ((m.getModifiers() & 1) == 0) {
                continue;
            }
            if (m.getName().equals("text")) {
                int sort = random.nextInt(4);
                String text = text(random, sort);
                calls += 4 + text.length() / 20;
                if (calls < 500) {
                    Check.feed(x, text);
                    sum = 31 * sum + x.text(sort, random.nextInt(3) - 1);
                }
                continue;
            }
            Object[] args = new Object[m.getParameterCount()];
            for (int i = 0; i < args.length; i++) {
                args[i] = m.getParameterTypes()[i] == boolean.class ? (Object) random.nextBoolean() : (Object) number(random);
            }
            Object answer = m.invoke(x, args);
            sum = 31 * sum + (answer instanceof Boolean b ? b ? 1 : 0 : (Integer) answer);
        }
        return sum;
    }

    private static int number(Random random) {
        switch (random.nextInt(8)) {
            case 0:
                return WILD[random.nextInt(WILD.length)];
            case 1:
                return random.nextInt(110) - 4;
            case 2:
                return random.nextInt();
            default:
                return random.nextInt(4) - 1;
        }
    }

    private static final int[][] LINES = {{0, 1}, {1, 3}, {2, 3}, {3, 2}, {4, 2}, {5, 2}, {6, 2}, {7, 2}, {8, 1},
        {9, 1}, {10, 1}, {11, 1}, {12, 3}, {13, 3}, {14, 3}, {15, 0}, {16, 2}, {17, 3}};
    private static final int[] FROM = {0, 9, 12, 16, 18};

    /** Lines that may be, most of them; now and then a token by chance. */
    private static String text(Random random, int sort) {
        StringBuilder s = new StringBuilder(sort == 0 ? "houses " + (1 + random.nextInt(6)) + ";thief 9;thief 3;" : "");
        boolean wild = random.nextInt(4) == 0;
        for (int n = random.nextInt(30); n > 0; n--) {
            int[] line = LINES[FROM[sort] + random.nextInt(FROM[sort + 1] - FROM[sort])];
            if (line[0] == 0 || line[0] == 8 && random.nextInt(3) > 0) {
                continue;
            }
            s.append(WORDS[line[0]]);
            for (int i = 0; i < line[1]; i++) {
                s.append(" " + random.nextInt(wild ? 12 : 2));
            }
            s.append(wild && random.nextInt(20) == 0 ? WORDS[random.nextInt(WORDS.length)] : ";");
        }
        return s.length() > 560 ? s.substring(0, 560) : s.toString();
    }
}
