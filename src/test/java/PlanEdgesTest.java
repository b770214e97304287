/** Terms 3 to 6 of a TOWN as told, promises 13 to 16, 19 to 25, 28 to 30: on both sides of each bound. */
public final class PlanEdgesTest {
    private static final int NONE = OneBack.NONE;
    private static final int[] WILD = {Integer.MIN_VALUE, -1000, -2, 100, 1000, 1 << 30, Integer.MAX_VALUE};
    private static final Check check = new Check("PlanEdgesTest");

    public static void main(String[] args) {
        aidWhats();
        aidEnough();
        aidWatch();
        aidNights();
        carryEnough();
        carrySteps();
        rounds();
        allHome();
        meets();
        movedTold();
        movedSums();
        movedSteps();
        quitNumbers();
        quitFewest();
        quitFirst();
        alms();
        prizes();
        rests();
        shares();
        evens();
        haulNumbers();
        haulBounds();
        haulLikeOnes();
        crewNumbers();
        crews();
        pairs();
        check.finish();
    }

    private static OneBack of(String town) {
        return Source.of(town).make();
    }

    private static int[] aids(String town, int... whats) {
        OneBack x = of(town);
        int[] all = new int[whats.length];
        for (int i = 0; i < whats.length; i++) {
            all[i] = x.aid(0, whats[i]);
        }
        return all;
    }

    /** Every what, of as many houses as there can be, with an AID and without. */
    private static void aidWhats() {
        for (int houses = 1; houses <= 6; houses++) {
            Source some = Source.of("houses " + houses + ";");
            Source none = Source.of("houses " + houses + ";needs 0 0 1;");
            for (int what = -20; what < 70; what++) {
                boolean is = what >= 0 && what <= 2 || what >= 10 && what < 10 + 5 * houses;
                check.same("aid " + what, some.on().aid(0, what), is ? 0 : -2);
                check.same("no aid " + what, none.on().aid(0, what), is ? NONE : -2);
            }
            for (int what : WILD) {
                check.row("wild aid", new int[] {some.on().aid(0, what), none.on().aid(0, what)}, -2, -2);
            }
        }
    }

    /** "as many as HOUSES LACK are taken from those who can SPARE ..; none, if there are not enough" */
    private static void aidEnough() {
        for (int has = 0; has <= 9; has++) {
            for (int lacks = 0; lacks <= 9; lacks++) {
                String town = "has 0 2 " + has + ";needs 1 2 " + lacks + ";watch 0 2;thief 9;";
                int due = lacks <= has ? lacks : NONE;
                check.row("has " + has + ", lacks " + lacks, aids(town, 0, 1, 2, 12, 17), due < 0 ? NONE : 2 * due, due,
                    due < 0 ? NONE : due > 0 ? 1 : 0, due, due < 0 ? NONE : 0);
                check.same("carry", of(town).carry(0), due);
            }
        }
        check.row("what one needs itself is not to spare", aids("has 0 0 5;needs 0 0 4;needs 1 0 2;", 0, 1, 10), NONE, NONE, NONE);
        check.row("just to spare", aids("has 0 0 5;needs 0 0 4;needs 1 0 1;", 0, 1, 10), 0, 1, 1);
        check.row("enough of another good", aids("has 0 0 9;needs 1 1 1;", 0, 1), NONE, NONE);
        check.row("enough of one good, not of another", aids("has 0 0 9;needs 1 0 1;needs 1 4 1;", 0, 1, 10), NONE, NONE, NONE);
        check.row("nothing lacked", aids("has 0 0 9;needs 0 0 9;watch 0 9;", 0, 1, 2, 10), 0, 0, 0, 0);
    }

    /** "so that WATCH of all takings together is least", "of HOUSES of one WATCH the lesser first" */
    private static void aidWatch() {
        String town = "houses 4;has 0 0 2;has 1 0 2;has 2 0 2;watch 0 5;watch 1 4;watch 2 5;";
        int[][] due = {{0, 0, 0, 0}, {4, 0, 1, 0}, {8, 0, 2, 0}, {13, 1, 2, 0}, {18, 2, 2, 0}, {23, 2, 2, 1}, {28, 2, 2, 2},
            {NONE, NONE, NONE, NONE}};
        for (int n = 0; n < due.length; n++) {
            check.row("for " + n, aids(town + "needs 3 0 " + n + ";", 0, 10, 15, 20), due[n]);
        }
        check.row("all of one watch", aids("houses 6;has 5 4 9;has 4 4 9;has 3 4 9;needs 0 4 9;needs 1 4 9;watch 3 9;watch 4 9;watch 5 9;",
            0, 1, 29, 34, 39), 162, 18, 9, 9, 0);
        check.row("several that lack", aids("has 0 0 9;needs 1 0 4;needs 2 0 5;watch 0 9;", 0, 1, 10), 81, 9, 9);
    }

    /** "how many nights it takes, if each night all THIEVES together take up to their LIMITS" */
    private static void aidNights() {
        for (int lacks = 0; lacks <= 9; lacks++) {
            for (int limit = 1; limit <= 9; limit++) {
                String town = "has 0 0 9;needs 1 0 " + lacks + ";thief " + limit + ";";
                check.row("nights for " + lacks + " by " + limit, aids(town, 2), (lacks + limit - 1) / limit);
            }
            check.row("without thieves " + lacks, aids("has 0 0 9;needs 1 0 " + lacks + ";", 0, 1, 2), 0, lacks, lacks > 0 ? NONE : 0);
        }
        String town = "has 0 0 9;has 0 1 9;needs 1 0 9;needs 1 1 9;";
        check.row("of several goods, thieves", aids(town + "thief 1;thief 2;thief 3;", 1, 2), 18, 3);
        check.row("one less", aids(town + "thief 2;thief 3;", 2), 4);
        check.row("one more", aids(town + "thief 3;thief 4;", 2), 3);
        check.row("all in one", aids(town + "thief 9;thief 9;", 2), 1);
        check.row("all but one in one", aids(town + "thief 9;thief 8;", 2), 2);
        check.row("no aid, no thieves", aids("needs 0 0 1;", 2), NONE);
        check.row("no aid, thieves", aids("needs 0 0 1;thief 1;", 2), NONE);
    }

    private static void carryEnough() {
        check.same("nothing lacked", of("has 0 0 9;").carry(0), 0);
        check.same("nothing at all", of("").carry(0), 0);
        check.same("one house", of("houses 1;has 0 0 9;").carry(0), 0);
        check.same("one house lacks", of("houses 1;needs 0 0 1;").carry(0), NONE);
        check.same("one too few", of("has 0 0 4;needs 1 0 5;").carry(0), NONE);
        check.same("enough", of("has 0 0 5;needs 1 0 5;").carry(0), 5);
        check.same("not of one good", of("has 0 0 5;needs 1 0 5;needs 1 1 1;").carry(0), NONE);
        check.same("one needs its own", of("has 0 0 5;needs 0 0 1;needs 1 0 5;").carry(0), NONE);
    }

    /** "from a HOUSE to one next to it by numbers", "a step of one thing costs its WEIGHT" */
    private static void carrySteps() {
        for (int h = 1; h < 6; h++) {
            for (int weight : new int[] {1, 2, 9}) {
                String town = "houses 6;has 0 3 9;needs " + h + " 3 9;weight 3 " + weight + ";weight 2 7;";
                check.same("steps to " + h, of(town).carry(0), 9 * h * weight);
                String back = "houses 6;needs 0 3 9;has " + h + " 3 9;weight 3 " + weight + ";weight 2 7;";
                check.same("steps back from " + h, of(back).carry(0), 9 * h * weight);
            }
        }
        check.same("no step from the last to the first", of("houses 6;has 0 0 1;needs 5 0 1;").carry(0), 5);
        check.same("the nearest", of("houses 6;has 0 0 9;has 4 0 9;needs 3 0 1;").carry(0), 1);
        check.same("the nearest may not be for all", of("houses 6;has 1 0 1;has 5 0 1;needs 2 0 1;needs 0 0 1;").carry(0), 4);
        check.same("both ways", of("houses 5;has 2 0 4;needs 0 0 2;needs 4 0 2;").carry(0), 8);
        StringBuilder all = new StringBuilder("houses 6;");
        for (int g = 0; g < 5; g++) {
            all.append("has 0 " + g + " 9;has 1 " + g + " 9;needs 4 " + g + " 9;needs 5 " + g + " 9;weight " + g + " 9;");
        }
        check.same("the most", of(all.toString()).carry(0), 5 * 9 * 9 * 8);
        check.same("three houses to three", of("houses 6;has 0 0 9;has 1 0 9;has 2 0 9;needs 3 0 9;needs 4 0 9;needs 5 0 9;").carry(0), 81);
    }

    /** "the night on which it is home again; none: never." */
    private static void rounds() {
        for (int size = 1; size <= 6; size++) {
            StringBuilder text = new StringBuilder("houses 6;");
            for (int h = 0; h < size; h++) {
                text.append("passes " + h + " " + (h + 1) % size + ";");
            }
            OneBack x = of(text.toString());
            for (int h = 0; h < 6; h++) {
                check.same("round of " + size + ", house " + h, x.round(0, h), h < size ? size : 1);
            }
            check.same("all", x.round(0, NONE), size);
            for (int h : new int[] {-2, 6, 7, Integer.MIN_VALUE, Integer.MAX_VALUE}) {
                check.same("no such house", x.round(0, h), NONE);
            }
        }
        OneBack x = of("houses 6;passes 0 1;passes 1 2;passes 2 3;passes 3 4;passes 4 5;");
        check.row("into the last", new int[] {x.round(0, 0), x.round(0, 4), x.round(0, 5), x.round(0, NONE)}, NONE, NONE, 1, NONE);
        OneBack y = of("houses 6;passes 0 1;passes 1 2;passes 2 3;passes 3 4;passes 4 5;passes 5 1;");
        check.row("into a round", new int[] {y.round(0, 0), y.round(0, 1), y.round(0, 5), y.round(0, NONE)}, NONE, 5, 5, NONE);
        for (int houses = 1; houses <= 6; houses++) {
            OneBack z = of("houses " + houses + ";");
            check.row("houses " + houses, new int[] {z.round(0, houses - 1), z.round(0, houses), z.round(0, NONE)}, 1, NONE, 1);
        }
    }

    /** "ALL: the first night on which all cows are home." */
    private static void allHome() {
        String three = "houses 6;passes 0 1;passes 1 2;passes 2 0;";
        check.same("three and ones", of(three).round(0, NONE), 3);
        check.same("three and two", of(three + "passes 3 4;passes 4 3;").round(0, NONE), 6);
        check.same("three and three", of(three + "passes 3 4;passes 4 5;passes 5 3;").round(0, NONE), 3);
        check.same("two and four", of("houses 6;passes 0 1;passes 1 0;passes 2 3;passes 3 4;passes 4 5;passes 5 2;").round(0, NONE), 4);
        check.same("two, two and two", of("houses 6;passes 0 1;passes 1 0;passes 2 3;passes 3 2;passes 4 5;passes 5 4;").round(0, NONE), 2);
        check.same("one is never home", of(three + "passes 5 0;").round(0, NONE), NONE);
    }

    /** "the first night, 0 .. 40, on which both cows are at one HOUSE; none." */
    private static void meets() {
        OneBack x = of("houses 6;passes 5 4;passes 4 3;passes 3 2;passes 2 1;passes 1 0;");
        for (int a = 0; a < 6; a++) {
            for (int b = 0; b < 6; b++) {
                check.same("down to 0", x.meets(0, a, b), a == b ? 0 : Math.max(a, b));
            }
        }
        OneBack y = of("houses 6;passes 0 1;passes 1 2;passes 2 3;passes 3 4;passes 4 5;passes 5 0;");
        for (int a = 0; a < 6; a++) {
            for (int b = 0; b < 6; b++) {
                check.same("all round", y.meets(0, a, b), a == b ? 0 : NONE);
            }
        }
        check.row("both at once at another one", new int[] {of("passes 0 2;passes 1 2;").meets(0, 0, 1),
            of("passes 0 1;passes 1 0;").meets(0, 0, 1), of("passes 0 1;").meets(0, 0, 1)}, 1, NONE, 1);
        for (int houses = 1; houses <= 6; houses++) {
            OneBack z = of("houses " + houses + ";");
            int last = houses - 1;
            check.row("houses " + houses, new int[] {z.meets(0, last, last), z.meets(0, houses, 0), z.meets(0, 0, houses),
                z.meets(0, houses, houses), z.meets(0, -1, 0), z.meets(0, 0, -1), z.meets(0, -1, -1),
                z.meets(0, Integer.MAX_VALUE, 0), z.meets(0, 0, Integer.MIN_VALUE)}, 0, NONE, NONE, NONE, NONE, NONE, NONE, NONE, NONE);
        }
    }

    private static void moved(String name, String town, String sight, int steps, int unseen) {
        OneBack x = Source.of(town, "", "", sight).make();
        check.row(name, new int[] {x.moved(0, 0, false), x.moved(0, 0, true)}, steps, unseen);
    }

    /** "of GOODS of which LEFT is told of each HOUSE that is there; others aside" */
    private static void movedTold() {
        String town = "has 0 0 5;has 0 1 2;";
        moved("nothing told", town, "", 0, 0);
        moved("not told of one house", town, "left 0 0 0;left 1 0 5;", 0, 0);
        moved("not of the first", town, "left 1 0 5;left 2 0 0;", 0, 0);
        moved("told of each", town, "left 0 0 0;left 1 0 5;left 2 0 0;", 5, 5);
        moved("of a house that is not there, too", town, "left 0 0 0;left 1 0 5;left 2 0 0;left 3 0 18;", 5, 5);
        moved("of a house that is not there alone", town, "left 3 0 18;left 4 0 1;left 5 0 1;", 0, 0);
        moved("of one good not told of each, of another one", town, "left 0 0 0;left 1 0 0;left 0 1 1;left 1 1 1;left 2 1 0;", 1, 1);
        moved("of both", town, "left 0 0 4;left 1 0 1;left 2 0 0;left 0 1 1;left 1 1 0;left 2 1 1;", 3, 2);
        for (int houses = 1; houses <= 6; houses++) {
            StringBuilder sight = new StringBuilder();
            for (int h = 0; h < 6; h++) {
                String text = "houses " + houses + ";has 0 4 9;";
                moved("told of " + h + " of " + houses, text, sight.toString(), h >= houses ? NONE : 0, h >= houses ? NONE : 0);
                sight.append("left " + h + " 4 0;");
            }
        }
    }

    /** "none: of some of these all are not as many as before." */
    private static void movedSums() {
        String town = "houses 2;has 0 0 5;has 1 0 4;has 0 1 1;";
        moved("as many", town, "left 0 0 4;left 1 0 5;", 1, 1);
        moved("one more", town, "left 0 0 5;left 1 0 5;", NONE, NONE);
        moved("one less", town, "left 0 0 4;left 1 0 4;", NONE, NONE);
        moved("of another good", town, "left 0 0 4;left 1 0 5;left 0 1 0;left 1 1 0;", NONE, NONE);
        moved("one good more, another one less", town, "left 0 0 5;left 1 0 5;left 0 1 0;left 1 1 0;", NONE, NONE);
        moved("all at one house", "houses 2;has 0 0 9;has 1 0 9;", "left 0 0 18;left 1 0 0;", 9, 9);
        moved("and one more", "houses 2;has 0 0 9;has 1 0 9;", "left 0 0 18;left 1 0 1;", NONE, NONE);
        moved("as it was", town, "left 0 0 5;left 1 0 4;left 0 1 1;left 1 1 0;", 0, 0);
        moved("one house", "houses 1;has 0 0 9;", "left 0 0 9;", 0, 0);
        moved("one house, one more", "houses 1;has 0 0 9;", "left 0 0 10;", NONE, NONE);
    }

    /** "the fewest steps, as CARRY, but each of 1", "how many goods at least were taken and brought to another HOUSE" */
    private static void movedSteps() {
        String five = "left 1 0 0;left 2 0 0;left 3 0 0;left 4 0 0;";
        moved("all the way", "houses 6;has 0 0 9;", "left 0 0 0;" + five + "left 5 0 9;", 45, 9);
        moved("all the way back", "houses 6;has 5 0 9;", "left 0 0 9;" + five + "left 5 0 0;", 45, 9);
        moved("of any weight", "houses 2;has 0 0 2;weight 0 9;", "left 0 0 0;left 1 0 2;", 2, 2);
        moved("one for another", "has 0 0 1;has 1 0 1;", "left 0 0 0;left 1 0 1;left 2 0 1;", 2, 1);
        moved("both ways", "has 1 0 4;", "left 0 0 2;left 1 0 0;left 2 0 2;", 4, 4);
    }

    private static final String DOUBLES = "double 0;double 2;double 19;";

    /** "other numbers": m 0 .. 40, g 1 .. 9, from 0 .. 19, to 0 .. 60 and not ahead of it. */
    private static void quitNumbers() {
        Source s = Source.of("", DOUBLES);
        for (int m = -3; m < 45; m++) {
            boolean is = m >= 0 && m <= 40;
            check.same("owes " + m, s.on().quit(0, m, 9, 3, 12), is ? m : NONE);
            check.same("first night, owes " + m, s.on().quit(0, m, 9, 3, NONE), is ? m == 0 ? 3 : 3 + (m - 1) / 9 : NONE);
        }
        for (int g = -3; g < 13; g++) {
            boolean is = g >= 1 && g <= 9;
            check.same("gifts " + g, s.on().quit(0, 1, g, 3, 4), is ? 1 : NONE);
            check.same("first night, gifts " + g, s.on().quit(0, 1, g, 3, NONE), is ? 3 : NONE);
            check.same("owes nothing, gifts " + g, s.on().quit(0, 0, g, 3, 4), is ? 0 : NONE);
            check.same("owes nothing, first night, gifts " + g, s.on().quit(0, 0, g, 3, NONE), is ? 3 : NONE);
        }
        for (int from = -3; from < 25; from++) {
            boolean is = from >= 0 && from <= 19;
            check.same("from " + from, s.on().quit(0, 1, 1, from, 60), is ? 1 : NONE);
            check.same("first night from " + from, s.on().quit(0, 1, 1, from, NONE), is ? from : NONE);
            check.same("owes nothing, from " + from, s.on().quit(0, 0, 1, from, 60), is ? 0 : NONE);
            check.same("owes nothing, first night from " + from, s.on().quit(0, 0, 1, from, NONE), is ? from : NONE);
        }
        for (int from = 0; from <= 19; from++) {
            for (int to = -3; to < 65; to++) {
                boolean is = to >= from && to <= 60;
                check.same("from " + from + " to " + to, s.on().quit(0, 1, 1, from, to), to == NONE ? from : is ? 1 : NONE);
                check.same("nothing, to " + to, s.on().quit(0, 0, 1, from, to), to == NONE ? from : is ? 0 : NONE);
            }
        }
        for (int wild : WILD) {
            check.row("wild", new int[] {s.on().quit(0, wild, 1, 0, 60), s.on().quit(0, 1, wild, 0, 60), s.on().quit(0, 1, 1, wild, 60),
                s.on().quit(0, 1, 1, 0, wild)}, NONE, NONE, NONE, NONE);
        }
    }

    /** "the fewest gifts by which he has given m or more by the end of a night told" */
    private static void quitFewest() {
        Source s = Source.of("", DOUBLES);
        // night 0 of two gifts counts 4, night 1 counts 2, night 2 counts 4
        int[][] due = {{0, 0, 0, 0}, {1, 1, 1, 1}, {1, 1, 1, 1}, {2, 2, 2, 2}, {2, 2, 2, 2}, {NONE, 3, 3, 3}, {NONE, 4, 3, 3},
            {NONE, NONE, 4, 4}, {NONE, NONE, 4, 4}, {NONE, NONE, 5, 5}, {NONE, NONE, 6, 6}, {NONE, NONE, NONE, 7}};
        for (int m = 0; m < due.length; m++) {
            for (int to = 0; to < 4; to++) {
                check.same("owes " + m + " to " + to, s.on().quit(0, m, 2, 0, to), due[m][to]);
            }
        }
        check.row("one night", new int[] {s.on().quit(0, 9, 9, 1, 1), s.on().quit(0, 10, 9, 1, 1), s.on().quit(0, 18, 9, 2, 2),
            s.on().quit(0, 19, 9, 2, 2), s.on().quit(0, 17, 9, 19, 19), s.on().quit(0, 19, 9, 19, 20)}, 9, NONE, 9, NONE, 9, 10);
        check.row("the last night that may be double", new int[] {s.on().quit(0, 2, 1, 19, 19), s.on().quit(0, 3, 1, 19, 20),
            s.on().quit(0, 4, 1, 19, 20)}, 1, 2, NONE);
        check.row("all that can be owed", new int[] {s.on().quit(0, 40, 1, 19, 56), s.on().quit(0, 40, 1, 19, 57),
            s.on().quit(0, 40, 1, 19, 60), s.on().quit(0, 40, 9, 0, 60)}, NONE, 39, 39, 20);
        Source none = Source.of("", "");
        check.row("no double night", new int[] {none.on().quit(0, 40, 1, 19, 57), none.on().quit(0, 40, 1, 19, 58),
            none.on().quit(0, 40, 1, 0, 38), none.on().quit(0, 40, 1, 0, 39)}, NONE, 40, NONE, 40);
        // behind night 31 no bit of a number comes round again
        check.row("nights 32 to 60", new int[] {s.on().quit(0, 40, 1, 19, 56), none.on().quit(0, 40, 1, 10, 48),
            Source.of("", "double 0;double 1;double 2;double 3;").on().quit(0, 40, 1, 10, 48)}, NONE, NONE, NONE);
    }

    /** "the first night at the end of which he can be quit (up to night 60)" */
    private static void quitFirst() {
        Source s = Source.of("", DOUBLES);
        int[] two = {0, 0, 0, 0, 0, 1, 1, 2, 2, 2, 2, 3, 3, 4};
        for (int m = 0; m < two.length; m++) {
            check.same("owes " + m, s.on().quit(0, m, 2, 0, NONE), two[m]);
        }
        check.row("from", new int[] {s.on().quit(0, 0, 1, 19, NONE), s.on().quit(0, 2, 1, 19, NONE), s.on().quit(0, 3, 1, 19, NONE),
            s.on().quit(0, 40, 1, 19, NONE), s.on().quit(0, 40, 1, 18, NONE), s.on().quit(0, 40, 9, 19, NONE)}, 19, 19, 20, 57, 56, 22);
        Source none = Source.of("", "");
        check.row("no double night", new int[] {none.on().quit(0, 40, 1, 0, NONE), none.on().quit(0, 40, 1, 19, NONE),
            none.on().quit(0, 9, 9, 5, NONE), none.on().quit(0, 10, 9, 5, NONE)}, 39, 58, 5, 6);
    }

    /** "n 1: 0; n 2: none: it can't be found", n 1 .. 60. */
    private static void alms() {
        OneBack x = new OneBack();
        int[][] light = {{1, 0}, {2, 1}, {3, 1}, {4, 2}, {9, 2}, {10, 3}, {27, 3}, {28, 4}, {59, 4}, {60, 4}};
        for (int[] row : light) {
            check.same("lighter, of " + row[0], x.alms(row[0], false), row[1]);
        }
        int[][] heavy = {{1, 0}, {2, NONE}, {3, 2}, {4, 2}, {5, 3}, {12, 3}, {13, 3}, {14, 4}, {39, 4}, {40, 4}, {41, 5}, {60, 5}};
        for (int[] row : heavy) {
            check.same("lighter or heavier, of " + row[0], x.alms(row[0], true), row[1]);
        }
        for (int n : new int[] {0, -1, -2, 61, 62, 81, 1 << 30, Integer.MIN_VALUE, Integer.MAX_VALUE}) {
            check.row("of " + n, new int[] {x.alms(n, false), x.alms(n, true)}, NONE, NONE);
        }
    }

    /** "WORTH of all that it HAS, less twice its WATCH; at one HOUSE each has half of WORTH (cut) less thrice WATCH." */
    private static void prizes() {
        for (int worth = 0; worth <= 9; worth++) {
            for (int watch : new int[] {0, 1, 9}) {
                OneBack x = of("houses 2;has 1 4 " + worth + ";watch 1 " + watch + ";has 0 0 9;watch 0 9;");
                check.row("worth " + worth + ", watch " + watch, new int[] {x.prize(0, 1, 0), x.prize(0, 1, 1)},
                    worth - 2 * watch, worth / 2 - 3 * watch);
            }
        }
        String five = "has 5 0 9;has 5 1 9;has 5 2 9;has 5 3 9;has 5 4 9;worth 0 9;worth 1 9;worth 2 9;worth 3 9;worth 4 9;";
        OneBack x = of("houses 6;watch 0 9;" + five);
        check.row("the most, the least", new int[] {x.prize(0, 5, 4), x.prize(0, 5, 5), x.prize(0, 0, 1), x.prize(0, 0, 0)},
            405, 202, -18, -27);
        for (int houses = 1; houses <= 6; houses++) {
            OneBack y = of("houses " + houses + ";");
            for (int h : new int[] {-2, -1, houses, 6, Integer.MIN_VALUE, Integer.MAX_VALUE}) {
                check.row("no such house " + h, new int[] {y.prize(0, h, 0), y.prize(0, 0, h), y.prize(0, h, h)}, -1000, -1000, -1000);
            }
            check.same("the last house", y.prize(0, houses - 1, houses - 1), 0);
        }
    }

    private static void rests(String name, String town, int... due) {
        OneBack x = of(town);
        check.same(name, x.rest(0, NONE), due.length);
        for (int k = 0; k < due.length; k++) {
            check.same(name + " " + k, x.rest(0, k), due[k]);
        }
        for (int k : new int[] {due.length, due.length + 1, 36, 37, -2, -3, Integer.MIN_VALUE, Integer.MAX_VALUE}) {
            check.same(name + " has no " + k, x.rest(0, k), NONE);
        }
    }

    /** "couples .. by which neither gains by another HOUSE" */
    private static void rests() {
        rests("one house", "houses 1;has 0 0 9;watch 0 9;", 0);
        int[] all = new int[36];
        for (int k = 0; k < 36; k++) {
            all[k] = k;
        }
        rests("all of six", "houses 6;", all);
        rests("apart", "houses 2;has 0 0 9;has 1 0 9;", 1, 6);
        // half of 8 is as much as 4, half of 9, cut, too; half of 7 is less
        rests("as much at another one", "houses 2;has 0 0 8;has 1 0 4;", 0, 1, 6);
        rests("as much, cut", "houses 2;has 0 0 9;has 1 0 4;", 0, 1, 6);
        rests("less by one", "houses 2;has 0 0 7;has 1 0 4;", 1, 6);
        rests("more by one", "houses 2;has 0 0 9;has 1 0 3;", 0);
        rests("watched, both would rather have nothing", "houses 2;has 0 0 9;watch 0 2;", 1, 6);
        rests("three", "houses 3;has 0 0 9;has 1 0 9;has 2 0 9;", 1, 2, 6, 8, 12, 13);
        rests("the last two of six", "houses 6;has 5 0 9;has 4 0 9;", 29, 34);
    }

    private static void shares() {
        OneBack x = of("houses 6;has 0 0 2;has 1 0 4;has 5 0 6;has 4 1 9;worth 1 0;");
        int[][] due = {{1, 6}, {1, 3}, {0, 1}, {0, 1}, {0, 1}, {1, 2}};
        for (int h = 0; h < 6; h++) {
            check.row("share of " + h, new int[] {x.share(0, h, false), x.share(0, h, true)}, due[h]);
        }
        for (int h : new int[] {-2, -1, 6, 7, Integer.MIN_VALUE, Integer.MAX_VALUE}) {
            check.row("no such house " + h, new int[] {x.share(0, h, false), x.share(0, h, true)}, NONE, NONE);
        }
        OneBack nothing = of("");
        check.row("nothing", new int[] {nothing.share(0, 0, false), nothing.share(0, 0, true), nothing.share(0, 2, false),
            nothing.share(0, 2, true), nothing.share(0, 3, false), nothing.share(0, 3, true)}, 0, 1, 0, 1, NONE, NONE);
        OneBack worthless = of("has 0 0 9;worth 0 0;");
        check.row("of no worth", new int[] {worthless.share(0, 0, false), worthless.share(0, 0, true)}, 0, 1);
        OneBack all = of("houses 1;has 0 0 9;worth 0 7;");
        check.row("all", new int[] {all.share(0, 0, false), all.share(0, 0, true)}, 1, 1);
        OneBack prime = of("houses 2;has 0 0 7;has 1 0 4;");
        check.row("no less terms", new int[] {prime.share(0, 0, false), prime.share(0, 0, true), prime.share(0, 1, false),
            prime.share(0, 1, true)}, 7, 11, 4, 11);
    }

    /** "no HOUSE HAS more than one more than another one" */
    private static void evens() {
        for (int n = 0; n <= 9; n++) {
            for (int m = 0; m <= 9; m++) {
                OneBack x = of("houses 2;has 0 4 " + n + ";has 1 4 " + m + ";has 0 3 9;");
                check.same("even " + n + ", " + m, x.even(0, 4), Math.abs(n - m) / 2);
            }
        }
        check.same("one house", of("houses 1;has 0 0 9;").even(0, 0), 0);
        check.same("all of six", of("houses 6;has 0 0 9;").even(0, 0), 7);
        check.same("as even as can be", of("has 0 0 3;has 1 0 2;has 2 0 3;").even(0, 0), 0);
        check.same("two more than another one", of("has 0 0 4;has 1 0 2;has 2 0 3;").even(0, 0), 1);
        check.same("one too few alone", of("houses 6;has 0 0 9;has 1 0 9;has 2 0 9;has 3 0 9;has 4 0 9;").even(0, 0), 7);
        OneBack x = of("");
        for (int g = -3; g < 9; g++) {
            check.same("good " + g, x.even(0, g), g >= 0 && g < 5 ? 0 : NONE);
        }
        for (int wild : WILD) {
            check.same("good " + wild, x.even(0, wild), NONE);
        }
    }

    /** "at most n things, 0 .. 9, of WEIGHT w together, 0 .. 99", what 0 or 10 + g. */
    private static void haulNumbers() {
        Source s = Source.of("houses 2;has 0 2 9;weight 2 9;");
        for (int n = -3; n < 14; n++) {
            check.same("things " + n, s.on().haul(0, 0, n, 99, 0), n >= 0 && n <= 9 ? n : NONE);
        }
        for (int w = -3; w < 104; w++) {
            check.same("weight " + w, s.on().haul(0, 0, 9, w, 0), w < 0 || w > 99 ? NONE : Math.min(9, w / 9));
        }
        for (int what = -20; what < 40; what++) {
            boolean is = what == 0 || what >= 10 && what < 15;
            check.same("what " + what, s.on().haul(0, 0, 9, 99, what), !is ? NONE : what == 0 || what == 12 ? 9 : 0);
        }
        for (int h = -3; h < 9; h++) {
            check.same("house " + h, s.on().haul(0, h, 9, 99, 0), h == 0 ? 9 : h == 1 ? 0 : NONE);
        }
        for (int wild : WILD) {
            check.row("wild", new int[] {s.on().haul(0, wild, 0, 0, 0), s.on().haul(0, 0, wild, 0, 0), s.on().haul(0, 0, 0, wild, 0),
                s.on().haul(0, 0, 0, 0, wild)}, NONE, NONE, NONE, NONE);
        }
    }

    private static int[] haul(String town, int n, int w) {
        OneBack x = of(town);
        int[] all = new int[6];
        for (int i = 0; i < 6; i++) {
            all[i] = x.haul(0, 0, n, w, i == 0 ? 0 : 9 + i);
        }
        return all;
    }

    private static void haulBounds() {
        String town = "has 0 0 2;has 0 4 2;weight 0 9;weight 4 5;worth 0 9;worth 4 4;";
        check.row("just so heavy", haul(town, 9, 28), 26, 2, 0, 0, 0, 2);
        check.row("one less", haul(town, 9, 27), 22, 2, 0, 0, 0, 1);
        check.row("just one", haul(town, 9, 9), 9, 1, 0, 0, 0, 0);
        check.row("not one", haul(town, 9, 8), 4, 0, 0, 0, 0, 1);
        check.row("none", haul(town, 9, 4), 0, 0, 0, 0, 0, 0);
        check.row("of no weight", haul(town, 9, 0), 0, 0, 0, 0, 0, 0);
        check.row("of no things", haul(town, 0, 99), 0, 0, 0, 0, 0, 0);
        check.row("three things", haul(town, 3, 99), 22, 2, 0, 0, 0, 1);
        check.row("all that it has", haul(town, 9, 99), 26, 2, 0, 0, 0, 2);
        check.row("nine of many", haul("has 0 0 9;has 0 1 9;worth 1 9;worth 0 8;", 9, 99), 81, 0, 9, 0, 0, 0);
        check.row("the most", haul("has 0 0 9;worth 0 9;weight 0 9;", 9, 81), 81, 9, 0, 0, 0, 0);
        check.row("one too heavy", haul("has 0 0 9;worth 0 9;weight 0 9;", 9, 80), 72, 8, 0, 0, 0, 0);
        check.row("of an empty house", haul("has 1 0 9;", 9, 99), 0, 0, 0, 0, 0, 0);
    }

    /** "of several such hauls that of most of GOOD 0, of these of most of GOOD 1, and so on" */
    private static void haulLikeOnes() {
        check.row("most of good 0", haul("has 0 0 5;has 0 1 5;has 0 2 5;", 5, 99), 5, 5, 0, 0, 0, 0);
        check.row("then of good 1", haul("has 0 1 3;has 0 3 5;has 0 4 5;", 5, 99), 5, 0, 3, 0, 2, 0);
        check.row("of no worth, as many as go along", haul("has 0 0 5;has 0 1 5;worth 0 0;worth 1 0;", 7, 99), 0, 5, 2, 0, 0, 0);
        check.row("of no worth, but not instead", haul("has 0 0 5;has 0 1 5;worth 0 0;", 5, 99), 5, 0, 5, 0, 0, 0);
        check.row("two of one for one of another", haul("has 0 0 2;has 0 4 1;worth 4 2;weight 4 2;", 2, 2), 2, 2, 0, 0, 0, 0);
        check.row("and if one alone may be had", haul("has 0 0 2;has 0 4 1;worth 4 2;weight 4 2;", 1, 2), 2, 0, 0, 0, 0, 1);
        check.row("all of no worth", haul("has 0 0 1;has 0 1 1;has 0 2 1;has 0 3 1;has 0 4 1;worth 0 0;worth 1 0;worth 2 0;worth 3 0;"
            + "worth 4 0;", 4, 3), 0, 1, 1, 1, 0, 0);
    }

    private static void crewNumbers() {
        Source four = Source.of("thief 9;thief 9;thief 9;thief 9;");
        for (int n = -3; n < 42; n++) {
            boolean is = n >= 1 && n <= 36;
            int size = (n + 8) / 9;
            check.row("crew for " + n, new int[] {four.on().crew(0, n, false), four.on().crew(0, n, true)},
                is ? size : NONE, is ? (1 << size) - 1 : NONE);
        }
        for (int wild : WILD) {
            check.row("wild", new int[] {four.on().crew(0, wild, false), four.on().crew(0, wild, true)}, NONE, NONE);
        }
    }

    /** "the fewest THIEVES whose LIMITS come to n or more; who (bits), of several the least" */
    private static void crews() {
        Source s = Source.of("thief 1;thief 4;thief 2;thief 4;");
        int[] size = {0, 1, 1, 1, 1, 2, 2, 2, 2, 3, 3, 4};
        int[] who = {0, 1, 2, 2, 2, 3, 6, 10, 10, 11, 14, 15};
        for (int n = 1; n <= 11; n++) {
            check.row("crew for " + n, new int[] {s.on().crew(0, n, false), s.on().crew(0, n, true)}, size[n], who[n]);
        }
        check.row("one more than all", new int[] {s.on().crew(0, 12, false), s.on().crew(0, 12, true)}, NONE, NONE);
        Source none = Source.of("");
        check.row("no thieves", new int[] {none.on().crew(0, 1, false), none.on().crew(0, 1, true), none.on().crew(0, 36, true)},
            NONE, NONE, NONE);
        Source last = Source.of("thief 1;thief 1;thief 1;thief 9;");
        check.row("the last alone", new int[] {last.on().crew(0, 2, false), last.on().crew(0, 2, true), last.on().crew(0, 9, true),
            last.on().crew(0, 10, true), last.on().crew(0, 12, true), last.on().crew(0, 13, true)}, 1, 8, 8, 9, 15, NONE);
    }

    private static void pairs(String name, String town, int... due) {
        OneBack x = of(town);
        check.same(name, x.pairs(0, NONE), due.length);
        for (int k = 0; k < due.length; k++) {
            check.same(name + " " + k, x.pairs(0, k), due[k]);
        }
        for (int k : new int[] {due.length, due.length + 1, 15, 36, -2, -3, Integer.MIN_VALUE, Integer.MAX_VALUE}) {
            check.same(name + " has no " + k, x.pairs(0, k), NONE);
        }
    }

    /** "couples of HOUSES each of which can SPARE something that the other one LACKS" */
    private static void pairs() {
        pairs("none", "houses 6;");
        pairs("one house", "houses 1;has 0 0 1;needs 0 1 1;");
        pairs("two", "houses 2;has 0 0 1;needs 0 1 1;has 1 1 1;needs 1 0 1;", 1);
        pairs("one way alone", "houses 2;has 0 0 1;has 1 1 1;needs 1 0 1;");
        pairs("the other way alone", "houses 2;has 0 0 1;needs 0 1 1;has 1 1 1;");
        pairs("needs its own", "houses 2;has 0 0 1;needs 0 0 1;needs 0 1 1;has 1 1 1;needs 1 0 1;");
        pairs("has its own", "houses 2;has 0 0 2;needs 0 0 1;needs 0 1 1;has 1 1 2;needs 1 1 1;needs 1 0 1;", 1);
        pairs("the last two", "houses 6;has 4 4 1;needs 4 3 1;has 5 3 1;needs 5 4 1;", 29);
        pairs("three with three", "houses 6;has 0 0 1;needs 0 1 1;has 1 0 1;needs 1 1 1;has 2 0 1;needs 2 1 1;has 3 1 1;needs 3 0 1;"
            + "has 4 1 1;needs 4 0 1;has 5 1 1;needs 5 0 1;", 3, 4, 5, 9, 10, 11, 15, 16, 17);
        StringBuilder all = new StringBuilder("houses 5;");
        for (int h = 0; h < 5; h++) {
            all.append("has " + h + " " + h + " 1;");
            for (int g = 0; g < 5; g++) {
                all.append(g == h ? "" : "needs " + h + " " + g + " 1;");
            }
        }
        pairs("each with each", all.toString(), 1, 2, 3, 4, 8, 9, 10, 15, 16, 22);
    }
}
