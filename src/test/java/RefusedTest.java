import java.lang.reflect.Method;
import java.util.Arrays;

/**
 * Calls that are refused: each answers as due, and nothing has changed that the document does not
 * say is changed. The same of calls that only ask.
 */
public final class RefusedTest {
    private static final int NONE = OneBack.NONE;
    private static final int LEAST = Integer.MIN_VALUE;
    private static final int MOST = Integer.MAX_VALUE;
    private static final Check check = new Check("RefusedTest");
    private static final String TAPE = "houses 2;worth 0 7;";
    /** Of two of each sort: which there are not. */
    private static final int[] NOT_OF_TWO = {-2, -1, 2, 3, LEAST, MOST};
    private static final int[] ANY = {};

    /** An object that calls are tried on. */
    private interface Maker {
        OneBack make();
    }

    private static final Source TOLD = new Source()
        .tell(0, "has 0 0 5;has 0 1 3;has 1 0 1;needs 1 1 2;needs 2 0 2;needs 2 1 1;watch 0 3;watch 2 4;worth 1 3;"
            + "weight 1 2;thief 3;thief 2;son 1 0;passes 0 1;passes 1 0;")
        .tell(1, "rate 2;catch 8;double 1;")
        .tell(2, "take 0 0 0;take 0 0 1;give 0 1 1;night;set 1 0 1;night;")
        .tell(3, "given 1 1;given 2 0;left 0 0 3;left 1 0 1;left 2 0 2;")
        .tell(0, "houses 6;has 5 4 9;has 0 0 3;needs 0 4 9;needs 5 0 1;thief 9;thief 8;thief 7;thief 6;son 3 2;"
            + "passes 5 0;passes 0 5;watch 5 9;")
        .tell(1, "rate 5;catch 99;double 19;double 0;")
        .tell(2, "take 3 5 4;give 3 0 4;night;take 0 0 0;")
        .tell(3, "given 0 4;given 5 0;left 5 4 18;");

    public static void main(String[] args) throws Exception {
        full();
        half();
        empty();
        ends();
        feeds();
        texts();
        images();
        check.finish();
    }

    /** Two of each sort, images 0 and 2, a FAULT, and bytes on the tape. */
    private static OneBack told() {
        OneBack x = TOLD.make();
        x.image(2);
        Check.tell(x, 0, 1, "houses 4;worth 0 10;");
        Check.feed(x, "night;");
        x.image(0);
        x.end(0);
        Check.feed(x, TAPE);
        return x;
    }

    /** The first of each sort alone, nothing else. */
    private static OneBack one() {
        OneBack x = new OneBack();
        Check.tell(x, 0, "has 0 0 5;needs 1 0 2;thief 3;");
        Check.tell(x, 1, "rate 3;");
        Check.tell(x, 2, "take 0 0 0;give 0 1 0;");
        Check.tell(x, 3, "given 1 0;");
        Check.feed(x, TAPE);
        return x;
    }

    private static OneBack nothing() {
        OneBack x = new OneBack();
        Check.feed(x, TAPE);
        return x;
    }

    private static Method method(String name) {
        for (Method m : OneBack.class.getDeclaredMethods()) {
            if (m.getName().equals(name)) {
                return m;
            }
        }
        throw new IllegalStateException(name);
    }

    private static int call(OneBack x, String name, int... numbers) throws Exception {
        Method m = method(name);
        Object[] args = new Object[numbers.length];
        for (int i = 0; i < args.length; i++) {
            args[i] = m.getParameterTypes()[i] == boolean.class ? (Object) (numbers[i] != 0) : (Object) numbers[i];
        }
        Object answer = m.invoke(x, args);
        return answer instanceof Boolean b ? b ? 1 : 0 : (Integer) answer;
    }

    /** What is seen of an object is what is seen of another one, but for the parts that are aside. */
    private static void unchanged(String name, Maker with, Maker without) {
        for (int part = 0; part < Look.PARTS; part++) {
            int[] got = Look.part(with.make(), part);
            int[] due = Look.part(without.make(), part);
            check.same(name + " changes part " + part + " of what is seen", Arrays.equals(got, due), true);
        }
    }

    private static void refused(Maker maker, int due, String name, int... numbers) throws Exception {
        String line = name + Arrays.toString(numbers);
        check.same(line, call(maker.make(), name, numbers), due);
        unchanged(line, () -> {
            OneBack x = maker.make();
            try {
                call(x, name, numbers);
            } catch (Exception e) {
                throw new IllegalStateException(line, e);
            }
            return x;
        }, maker);
    }

    /** A call that is not refused, and that with each of its numbers changed to each wrong one. */
    private static void wrong(int due, String name, int[] fine, int[]... wrongs) throws Exception {
        check.same(name + Arrays.toString(fine) + " is not refused", call(told(), name, fine) != due, true);
        refused(RefusedTest::told, call(told(), name, fine), name, fine);
        for (int i = 0; i < wrongs.length; i++) {
            for (int number : wrongs[i]) {
                int[] numbers = fine.clone();
                numbers[i] = number;
                refused(RefusedTest::told, due, name, numbers);
            }
        }
    }

    private static int[] of(int... numbers) {
        return numbers;
    }

    /** Numbers, and the least and the greatest that there are. */
    private static int[] wild(int... numbers) {
        int[] all = Arrays.copyOf(numbers, numbers.length + 2);
        all[numbers.length] = LEAST;
        all[numbers.length + 1] = MOST;
        return all;
    }

    private static void full() throws Exception {
        toldOnes();
        statesOfNights();
        plans();
        rests();
    }

    private static void toldOnes() throws Exception {
        wrong(NONE, "fault", of(0), wild(-1, 2, 3));
        wrong(-2, "town", of(0, 0), NOT_OF_TWO, wild(-1, 2, 9, 13, 19, 23, 29, 35, 39, 45, 49, 52, 59, 62, 69, 70, 80));
        wrong(-2, "town", of(1, 15), ANY, wild(16, 26, 35, 45, 54, 64));
        wrong(NONE, "house", of(0, 2, 4, 0), NOT_OF_TWO, wild(-1, 3, 6), wild(-1, 5), wild(-1, 4));
        wrong(NONE, "house", of(1, 5, 4, 0), ANY, wild(-1, 6), wild(-1, 5), wild(-1, 4));
        wrong(NONE, "law", of(0, 0), NOT_OF_TWO, wild(-1, 2, 9, 30));
        wrong(-2, "deed", of(0, 0, 0), NOT_OF_TWO, wild(-2, 6, 40), wild(-1, 4));
        wrong(-2, "deed", of(0, NONE, 0), NOT_OF_TWO, ANY, wild(-1, 1, 2, 3, 4));
        wrong(-2, "sight", of(0, 0), NOT_OF_TWO, wild(-1, 1, 9, 12, 18, 19, 22, 28, 29, 60));
        wrong(-2, "count", of(0), wild(-1, -2, 4));
    }

    private static void statesOfNights() throws Exception {
        wrong(NONE, "stop", of(0, 0, 0), NOT_OF_TWO, NOT_OF_TWO, NOT_OF_TWO);
        // the fifth deed can't be, so there is no state behind five
        int[] notThere = wild(-1, 5, 6, 7, 40, 41);
        wrong(-1000, "state", of(0, 0, 0, 4, 0), NOT_OF_TWO, NOT_OF_TWO, NOT_OF_TWO, notThere,
            wild(-1, 4, 9, 22, 29, 32, 39, 42, 49, 52, 59, 63, 69, 70, 75));
        wrong(-1000, "wealth", of(0, 0, 0, 4, 0), NOT_OF_TWO, NOT_OF_TWO, NOT_OF_TWO, notThere,
            wild(-1, 5, 9, 12, 19, 23, 29, 33, 39, 40));
        wrong(NONE, "goods", of(0, 0, 0, 4, NONE, 0, 0), NOT_OF_TWO, NOT_OF_TWO, NOT_OF_TWO, notThere,
            wild(-2, 2, 4), wild(-2, -1, 3, 6), wild(-1, 5));
        wrong(NONE, "goods", of(0, 0, 0, 4, 0, NONE, 0), NOT_OF_TWO, NOT_OF_TWO, NOT_OF_TWO, notThere,
            wild(-2, -1, 2, 4), wild(-2, 3, 6), wild(-1, 5));
        wrong(NONE, "goods", of(0, 0, 0, 4, 0, 0, 0), NOT_OF_TWO, NOT_OF_TWO, NOT_OF_TWO, notThere,
            wild(-2, 2, 4), wild(-2, 3, 6), wild(-1, 5));
        wrong(NONE, "hands", of(0, 0, 0, 0, NONE), NOT_OF_TWO, NOT_OF_TWO, NOT_OF_TWO, NOT_OF_TWO, wild(-2, 2, 8));
        wrong(-1000, "drawn", of(0, 0, 7, 3, 1), NOT_OF_TWO, NOT_OF_TWO, ANY, wild(-1, 0, 31),
            wild(-1, 0, 4, 9, 10, 13, 14, 19, 22, 29, 32, 42, 52, 59, 63, 69, 85, 100));
    }

    private static void plans() throws Exception {
        wrong(-2, "aid", of(0, 0), NOT_OF_TWO, wild(-1, 3, 9, 25, 39, 40));
        wrong(NONE, "carry", of(0), NOT_OF_TWO);
        wrong(NONE, "round", of(0, 0), NOT_OF_TWO, wild(-2, 3, 6));
        wrong(NONE, "round", of(0, NONE), NOT_OF_TWO);
        wrong(NONE, "meets", of(0, 2, 2), NOT_OF_TWO, wild(-1, 3), wild(-1, 3));
        for (int unseen = 0; unseen < 2; unseen++) {
            wrong(NONE, "moved", of(0, 0, unseen), NOT_OF_TWO, NOT_OF_TWO);
        }
        wrong(NONE, "quit", of(0, 5, 2, 3, 9), NOT_OF_TWO, wild(-1, 41), wild(-1, 0, 10), wild(-1, 20), wild(-2, 2, 61));
        wrong(NONE, "quit", of(0, 5, 2, 0, NONE), NOT_OF_TWO, wild(-1, 41), wild(-1, 0, 10), wild(-1, 20));
        // who owes nothing is quit by no gift, but not with other numbers
        wrong(NONE, "quit", of(0, 0, 2, 3, 9), NOT_OF_TWO, wild(-1, 41), wild(-1, 0, 10), wild(-1, 20), wild(-2, 2, 61));
        wrong(NONE, "quit", of(0, 0, 2, 0, NONE), NOT_OF_TWO, wild(-1, 41), wild(-1, 0, 10), wild(-1, 20));
        wrong(NONE, "even", of(0, 0), NOT_OF_TWO, wild(-1, 5));
        wrong(NONE, "pairs", of(1, 0), NOT_OF_TWO, wild(-2, 1, 15));
        wrong(NONE, "pairs", of(1, NONE), NOT_OF_TWO);
        wrong(NONE, "haul", of(0, 0, 4, 6, 0), NOT_OF_TWO, wild(-1, 3), wild(-1, 10), wild(-1, 100), wild(-1, 1, 9, 15));
    }

    private static void rests() throws Exception {
        wrong(-1000, "prize", of(0, 0, 0), NOT_OF_TWO, wild(-1, 3), wild(-1, 3));
        wrong(NONE, "rest", of(0, 0), NOT_OF_TWO, wild(-2, 9, 36));
        wrong(NONE, "rest", of(0, NONE), NOT_OF_TWO);
        for (int flag = 0; flag < 2; flag++) {
            wrong(NONE, "alms", of(3, flag), wild(-1, 0, 61));
            wrong(NONE, "share", of(0, 0, flag), NOT_OF_TWO, wild(-1, 3));
            // all thieves of the first town together take five
            wrong(NONE, "crew", of(0, 5, flag), NOT_OF_TWO, wild(-1, 0, 6, 36, 37));
            wrong(NONE, "crew", of(1, 30, flag), NOT_OF_TWO, wild(-1, 0, 31, 36, 37));
        }
    }

    /** Where there is one of each sort, there is no second. */
    private static void half() throws Exception {
        none(RefusedTest::one, 1);
        check.same("the first town is there", one().town(0, 1), 1);
    }

    /** A new object has none of any sort. */
    private static void empty() throws Exception {
        none(RefusedTest::nothing, 0);
        none(OneBack::new, 0);
        none(OneBack::new, 1);
    }

    private static void none(Maker maker, int k) throws Exception {
        refused(maker, -2, "town", k, 0);
        refused(maker, NONE, "house", k, 0, 0, 0);
        refused(maker, NONE, "law", k, 0);
        refused(maker, -2, "deed", k, NONE, 0);
        refused(maker, -2, "deed", k, 0, 0);
        refused(maker, -2, "sight", k, 0);
        refused(maker, -2, "aid", k, 0);
        refused(maker, NONE, "carry", k);
        refused(maker, NONE, "round", k, NONE);
        refused(maker, NONE, "round", k, 0);
        refused(maker, NONE, "meets", k, 0, 0);
        refused(maker, NONE, "quit", k, 0, 1, 0, 0);
        refused(maker, NONE, "quit", k, 0, 1, 0, NONE);
        refused(maker, -1000, "prize", k, 0, 0);
        refused(maker, NONE, "rest", k, NONE);
        refused(maker, NONE, "share", k, 0, 0);
        refused(maker, NONE, "share", k, 0, 1);
        refused(maker, NONE, "even", k, 0);
        refused(maker, NONE, "haul", k, 0, 0, 0, 0);
        refused(maker, NONE, "crew", k, 1, 0);
        refused(maker, NONE, "crew", k, 1, 1);
        refused(maker, NONE, "pairs", k, NONE);
        for (int i = 0; i < 3; i++) {
            // one of the three is not there, the others are, if there are any at all
            int town = i == 0 ? k : 0;
            int law = i == 1 ? k : 0;
            int nights = i == 2 ? k : 0;
            refused(maker, NONE, "stop", town, law, nights);
            refused(maker, -1000, "state", town, law, nights, 0, 0);
            refused(maker, NONE, "goods", town, law, nights, 0, NONE, 0, 0);
            refused(maker, -1000, "wealth", town, law, nights, 0, 0);
            refused(maker, NONE, "hands", town, law, nights, 0, NONE);
        }
        refused(maker, NONE, "hands", 0, 0, 0, k, NONE);
        refused(maker, -1000, "drawn", k, 0, 0, 1, 1);
        refused(maker, -1000, "drawn", 0, k, 0, 1, 1);
        refused(maker, NONE, "moved", k, 0, 0);
        refused(maker, NONE, "moved", 0, k, 1);
    }

    /** "NONE if it has not so many, or n is below 0." */
    private static void ends() throws Exception {
        for (int n : wild(-1, TAPE.length() + 1, 600, 601)) {
            refused(RefusedTest::told, NONE, "end", n);
        }
        refused(RefusedTest::told, TAPE.length(), "end", TAPE.length());
        for (int n : wild(-1, 1, 600)) {
            refused(OneBack::new, NONE, "end", n);
        }
        refused(OneBack::new, 0, "end", 0);
    }

    /** "NONE, and nothing comes, if there would be more than 600." */
    private static void feeds() throws Exception {
        for (int length : new int[] {581, 590, 599, 600}) {
            Maker maker = () -> {
                OneBack x = TOLD.make();
                x.image(1);
                Check.tell(x, 0, 1, "houses 4;worth 0 10;");
                Check.feed(x, TAPE + " ".repeat(length - TAPE.length()));
                return x;
            };
            refused(maker, NONE, "feed", 0x20202020, 0x776f7274, 0x68203020, 0x393b2020, 0x20202020);
            refused(maker, length, "end", length);
            refused(maker, NONE, "end", length + 1);
        }
    }

    /** text() that answers -2 takes the tape, and FAULT is 0 then; with a FAULT it takes the tape, too. Nothing else. */
    private static void texts() {
        for (int at : wild(-2, 2, 3, NONE)) {
            for (int sort = 0; sort < 4; sort++) {
                notRead("text(" + sort + ", " + at + ") of two", RefusedTest::told, sort, at);
            }
        }
        for (int sort : wild(-2, -1, 4, 5)) {
            for (int at = -1; at < 2; at++) {
                notRead("text(" + sort + ", " + at + ")", RefusedTest::told, sort, at);
            }
        }
        for (int sort = 0; sort < 4; sort++) {
            notRead("text(" + sort + ", 1) of one", RefusedTest::one, sort, 1);
            notRead("text(" + sort + ", 0) of none", RefusedTest::nothing, sort, 0);
            for (int at = 0; at < 2; at++) {
                faulty(RefusedTest::told, sort, at);
            }
            faulty(RefusedTest::one, sort, 0);
            faulty(RefusedTest::one, sort, NONE);
            faulty(RefusedTest::nothing, sort, NONE);
        }
    }

    private static void notRead(String name, Maker maker, int sort, int at) {
        OneBack x = maker.make();
        check.same(name, x.text(sort, at), -2);
        check.same(name + ": FAULT", x.fault(0), 0);
        check.same(name + ": its place", x.fault(1), NONE);
        check.same(name + ": the tape", x.end(1), NONE);
        Maker with = () -> {
            OneBack y = maker.make();
            y.text(sort, at);
            return y;
        };
        butTapeAndFault(name, with, maker, 0, NONE);
    }

    private static void faulty(Maker maker, int sort, int at) {
        // of each sort a text whose fault is found late, so that much of it could have been kept
        String[] texts = {"houses 5;has 0 0 9;thief 9;thief 9;worth 4 10;", "rate 4;catch 9;double 5;double 20;",
            "night;take 1 1 1;set 1 1 1;", "given 0 0;left 0 0 7;left 0 0 19;"};
        int[] places = {43, 31, 23, 30};
        String name = "text(" + sort + ", " + at + ") of " + texts[sort];
        Maker with = () -> {
            OneBack y = maker.make();
            y.end(0);
            Check.tell(y, sort, at, texts[sort]);
            return y;
        };
        check.same(name, with.make().fault(0), 2);
        butTapeAndFault(name, with, maker, 2, places[sort]);
    }

    /** The parts 0 (with the FAULT) and 3 (with the tape) are looked at with what they should have now. */
    private static void butTapeAndFault(String name, Maker with, Maker without, int fault, int place) {
        for (int part = 0; part < Look.PARTS; part++) {
            OneBack old = without.make();
            if (part == 3) {
                old.end(0);
            }
            int[] got = Look.part(with.make(), part);
            int[] due = Look.part(old, part);
            if (part == 0) {
                due[6] = fault;
                due[7] = place;
            }
            check.same(name + " changes part " + part + " of what is seen", Arrays.equals(got, due), true);
        }
    }

    /** "false for another k", "false if there is none such". */
    private static void images() throws Exception {
        for (int k : wild(-2, -1, 3, 4)) {
            refused(RefusedTest::told, 0, "image", k);
            refused(RefusedTest::told, 0, "again", k);
            refused(OneBack::new, 0, "image", k);
            refused(OneBack::new, 0, "again", k);
        }
        refused(RefusedTest::told, 0, "again", 1);
        for (int k = 0; k < 3; k++) {
            refused(OneBack::new, 0, "again", k);
            refused(RefusedTest::one, 0, "again", k);
        }
    }
}
