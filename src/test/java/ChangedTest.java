import java.util.ArrayList;
import java.util.Arrays;
import java.util.List;

/** Calls that change something: what each changes, and that nothing else changes with it. */
public final class ChangedTest {
    private static final int NONE = OneBack.NONE;
    private static final Check check = new Check("ChangedTest");
    private static final String[][] FIRST = {
        {"houses 6;has 5 4 9;needs 0 4 9;watch 5 9;passes 5 0;weight 4 9;worth 4 0;thief 9;thief 8;son 1 0;",
            "houses 2;has 0 0 1;needs 1 0 1;thief 1;passes 0 1;passes 1 0;"},
        {"rate 5;catch 99;double 19;double 0;", "rate 3;catch 1;double 5;"},
        {"take 0 5 4;give 0 0 4;night;set 3 2 9;", "take 0 0 0;give 0 1 0;"},
        {"given 5 4;given 0 0;left 5 4 18;left 0 0 0;", "given 1 0;left 0 0 0;left 1 0 1;"}};
    private static final String[] LATER = {"houses 4;has 3 3 3;needs 2 3 1;watch 3 3;thief 3;worth 3 3;weight 3 3;",
        "rate 4;catch 4;double 4;", "night;take 3 3 3;give 2 2 2;set 1 2 3;night;", "given 3 3;left 3 3 3;"};

    /** What is tried. */
    private interface Deed {
        void on(OneBack x);
    }

    public static void main(String[] args) {
        feedAndEnd();
        textInPlace();
        textFurther();
        texts();
        firstAndSecond();
        image();
        again();
        check.finish();
    }

    /** So many of each sort, a FAULT, an image 1 of before, a tape. */
    private static OneBack told(int howMany) {
        OneBack x = new OneBack();
        for (int k = 0; k < howMany; k++) {
            for (int sort = 0; sort < 4; sort++) {
                Check.tell(x, sort, FIRST[sort][k]);
            }
        }
        Check.feed(x, "worth 0 5;");
        x.image(1);
        x.end(0);
        Check.tell(x, 2, howMany > 0 ? 0 : NONE, "night;nigt;");
        Check.feed(x, "worth 2 7;");
        return x;
    }

    /** All that is told of one: 0 to 3 its sort. */
    private static int[] one(OneBack x, int sort, int k) {
        List<Integer> all = new ArrayList<>();
        switch (sort) {
            case 0 -> {
                for (int what = 0; what < 70; what++) {
                    all.add(x.town(k, what));
                }
                for (int cell = 0; cell < 30; cell++) {
                    all.add(x.house(k, cell / 5, cell % 5, 0));
                    all.add(x.house(k, cell / 5, cell % 5, 1));
                }
            }
            case 1 -> {
                for (int what = 0; what < 30; what++) {
                    all.add(x.law(k, what));
                }
            }
            case 2 -> {
                all.add(x.deed(k, NONE, 0));
                for (int deed = 0; deed < 6; deed++) {
                    for (int what = 0; what < 4; what++) {
                        all.add(x.deed(k, deed, what));
                    }
                }
            }
            default -> {
                for (int what = 0; what < 60; what++) {
                    all.add(x.sight(k, what));
                }
            }
        }
        return all.stream().mapToInt(i -> i).toArray();
    }

    private static void alike(String name, int[] got, int[] due) {
        check.same(name, Arrays.equals(got, due), true);
    }

    private static void images(String name, int howMany, Deed deed) {
        for (int part = 4; part < Look.PARTS; part++) {
            OneBack x = told(howMany);
            deed.on(x);
            alike(name + ", image part " + part, Look.part(x, part), Look.part(told(howMany), part));
        }
    }

    /** feed() and end() change the tape alone. */
    private static void feedAndEnd() {
        Deed[] deeds = {x -> x.feed(1, 2, 3, 4, 5), x -> x.end(0), x -> x.end(9), x -> x.end(10),
            x -> Check.feed(x, " ".repeat(590))};
        for (int howMany = 0; howMany <= 2; howMany++) {
            for (int k = 0; k < deeds.length; k++) {
                for (int part = 0; part < 3; part++) {
                    OneBack x = told(howMany);
                    deeds[k].on(x);
                    alike("feed, end " + k + ", part " + part, Look.part(x, part), Look.part(told(howMany), part));
                }
                images("feed, end " + k, howMany, deeds[k]);
            }
        }
    }

    private static void afterText(OneBack x, String name) {
        check.row(name + ": no FAULT", new int[] {x.fault(0), x.fault(1)}, 0, NONE);
        check.row(name + ": an empty tape", new int[] {x.end(1), x.feed(0, 0, 0, 0, 0)}, NONE, 20);
    }

    /** A text in the place of one is that one then; all others, of its sort and of others, are as they were. */
    private static void textInPlace() {
        for (int sort = 0; sort < 4; sort++) {
            for (int at = 0; at < 2; at++) {
                String name = "text(" + sort + ", " + at + ")";
                Deed deed = deed(sort, at);
                for (int other = 0; other < 4; other++) {
                    for (int k = 0; k < 2; k++) {
                        OneBack x = told(2);
                        deed.on(x);
                        boolean is = other == sort && k == at;
                        int[] due = is ? one(alone(sort), sort, 0) : one(told(2), other, k);
                        alike(name + ", " + k + " of sort " + other, one(x, other, k), due);
                        check.same(name + ": how many", x.count(other), 2);
                    }
                }
                OneBack x = told(2);
                deed.on(x);
                afterText(x, name);
                images(name, 2, deed);
            }
        }
    }

    private static Deed deed(int sort, int at) {
        return x -> {
            x.end(0);
            int due = at == NONE ? x.count(sort) : at;
            check.same("text(" + sort + ", " + at + ")", Check.tell(x, sort, at, LATER[sort]), due);
        };
    }

    /** The later text, and nothing else. */
    private static OneBack alone(int sort) {
        OneBack x = new OneBack();
        Check.tell(x, sort, LATER[sort]);
        return x;
    }

    /** A further one comes behind those of its sort; of the others there are as many as there were. */
    private static void textFurther() {
        for (int howMany = 0; howMany < 2; howMany++) {
            for (int sort = 0; sort < 4; sort++) {
                String name = "text(" + sort + ", NONE) behind " + howMany;
                Deed deed = deed(sort, NONE);
                for (int other = 0; other < 4; other++) {
                    OneBack x = told(howMany);
                    deed.on(x);
                    check.same(name + ": how many", x.count(other), other == sort ? howMany + 1 : howMany);
                    for (int k = 0; k < howMany; k++) {
                        alike(name + ", " + k + " of sort " + other, one(x, other, k), one(told(howMany), other, k));
                    }
                }
                OneBack x = told(howMany);
                deed.on(x);
                alike(name + ", the new one", one(x, sort, howMany), one(alone(sort), sort, 0));
                afterText(x, name);
                images(name, howMany, deed);
            }
        }
    }

    /** All eight texts told in every order of sorts are all there. */
    private static void texts() {
        for (int order = 0; order < 24; order++) {
            int[] sorts = order(order);
            OneBack x = new OneBack();
            for (int k = 0; k < 2; k++) {
                for (int sort : sorts) {
                    check.same("a further one", Check.tell(x, sort, FIRST[sort][k]), k);
                }
            }
            for (int sort = 0; sort < 4; sort++) {
                for (int k = 0; k < 2; k++) {
                    OneBack y = new OneBack();
                    Check.tell(y, sort, FIRST[sort][k]);
                    int[] due = one(y, sort, 0);
                    alike("order " + order + ", " + k + " of sort " + sort, one(twin(sorts), sort, k), due);
                }
            }
        }
    }

    private static OneBack twin(int[] sorts) {
        OneBack x = new OneBack();
        for (int k = 0; k < 2; k++) {
            for (int sort : sorts) {
                Check.tell(x, sort, FIRST[sort][k]);
            }
        }
        return x;
    }

    /** What follows of the first is what follows of the second, if it is told as that: asked by turns of both. */
    private static void firstAndSecond() {
        int[][] seen = new int[2][];
        for (int swap = 0; swap < 2; swap++) {
            OneBack x = new OneBack();
            for (int k = 0; k < 2; k++) {
                for (int sort = 0; sort < 4; sort++) {
                    Check.tell(x, sort, FIRST[sort][k ^ swap]);
                }
            }
            for (int k = 0; k < 2; k++) {
                int[] got = Look.of(x, k ^ swap);
                if (swap == 0) {
                    seen[k] = got;
                }
                alike("text " + k + " as " + (k ^ swap), got, seen[k]);
            }
        }
        check.same("they are not alike", Arrays.equals(seen[0], seen[1]), false);
    }

    private static int[] order(int n) {
        List<Integer> left = new ArrayList<>(List.of(0, 1, 2, 3));
        int[] all = new int[4];
        int rest = n;
        for (int i = 0; i < 4; i++) {
            all[i] = left.remove(rest % left.size());
            rest /= 4 - i;
        }
        return all;
    }

    /** image() changes that image alone. */
    private static void image() {
        for (int k = 0; k < 3; k++) {
            int which = k;
            for (int part = 0; part < Look.PARTS; part++) {
                OneBack x = told(2);
                x.image(which);
                boolean isImage = part / 4 - 1 == k;
                int[] due = Look.part(told(2), isImage ? part % 4 : part);
                alike("image(" + k + "), part " + part, Look.part(x, part), due);
            }
        }
    }

    /** again() changes all that is told, and no image. */
    private static void again() {
        for (int part = 0; part < Look.PARTS; part++) {
            OneBack x = told(2);
            x.image(2);
            Check.tell(x, 0, 0, "");
            x.again(1);
            OneBack old = told(2);
            old.image(2);
            int[] due = Look.part(old, part < 4 ? 8 + part : part);
            alike("again(1), part " + part, Look.part(x, part), due);
        }
    }
}
