/** Terms 2 and promises 10 to 12: what can be and what can't, on both sides of each bound. */
public final class DeedEdgesTest {
    private static final int NONE = OneBack.NONE;
    private static final int[] WILD = {Integer.MIN_VALUE, -1000, -2, -1, 41, 1000, 1 << 30, Integer.MAX_VALUE};
    private static final Check check = new Check("DeedEdgesTest");

    public static void main(String[] args) {
        atFirst();
        houseThatHas();
        limits();
        bags();
        houseThatLacks();
        neverTaken();
        counts();
        due();
        sets();
        setsOfNine();
        kin();
        traces();
        catchBounds();
        afterTheNight();
        noSuchOnes();
        caughtOnes();
        stops();
        states();
        whatsOfState();
        queue();
        pious();
        want();
        goodsOfAll();
        check.finish();
    }

    private static int stop(String town, String law, String nights) {
        return Source.of(town, law, nights).on().stop(0, 0, 0);
    }

    private static String takes(int thief, int house, int good, int n) {
        return ("take " + thief + " " + house + " " + good + ";").repeat(n);
    }

    private static String gives(int thief, int house, int good, int n) {
        return ("give " + thief + " " + house + " " + good + ";").repeat(n);
    }

    private static int[] states(Source s, int n, int... whats) {
        int[] all = new int[whats.length];
        for (int i = 0; i < whats.length; i++) {
            all[i] = s.on().state(0, 0, 0, n, whats[i]);
        }
        return all;
    }

    /** "begin in night 0, nobody having taken or given." */
    private static void atFirst() {
        Source s = Source.of("houses 6;has 5 4 9;needs 0 0 9;watch 0 9;thief 9;thief 9;thief 9;thief 9;", "", "night;");
        check.row("night, WANT, CAUGHT, PIOUS, QUEUE", states(s, 0, 0, 1, 2, 3, 10), 0, 9, 0, 0, NONE);
        for (int t = 0; t < 4; t++) {
            check.row("thief " + t, states(s, 0, 20 + t, 30 + t, 40 + t, 50 + t), 0, 0, 0, 0);
            for (int g = 0; g < 5; g++) {
                check.same("bag", s.on().goods(0, 0, 0, 0, t, NONE, g), 0);
                check.same("took", s.on().goods(0, 0, 0, 0, t, 5, g), 0);
            }
        }
        for (int h = 0; h < 6; h++) {
            check.same("lost", s.on().state(0, 0, 0, 0, 60 + h), 0);
        }
        check.row("goods as told", new int[] {s.on().goods(0, 0, 0, 0, NONE, 5, 4), s.on().goods(0, 0, 0, 0, NONE, 0, 0)}, 9, 0);
    }

    /** "one GOOD goes from a HOUSE that HAS it to the THIEF's BAG" */
    private static void houseThatHas() {
        for (int has = 0; has <= 9; has++) {
            String town = "has 1 3 " + has + ";thief 9;thief 9;";
            check.same("a house that has " + has, stop(town, "", takes(0, 1, 3, 9) + takes(1, 1, 3, 1)), has);
            Source s = Source.of(town, "", takes(0, 1, 3, has));
            check.row("what it has, his bag, what he took", new int[] {s.on().goods(0, 0, 0, has, NONE, 1, 3),
                s.on().goods(0, 0, 0, has, 0, NONE, 3), s.on().goods(0, 0, 0, has, 0, 1, 3),
                s.on().goods(0, 0, 0, has, 1, NONE, 3)}, 0, has, has, 0);
            check.row("TAKEN, LOST", states(s, has, 20, 21, 60, 61), has, 0, 0, has);
        }
        check.same("it has another good", stop("has 1 3 9;thief 9;", "", takes(0, 1, 2, 1)), 0);
        check.same("another house has it", stop("has 1 3 9;thief 9;", "", takes(0, 0, 3, 1)), 0);
    }

    /** "he has taken fewer than LIMIT in this night." */
    private static void limits() {
        for (int limit = 1; limit <= 9; limit++) {
            String town = "has 0 0 9;has 0 1 9;has 1 0 9;thief " + limit + ";thief 9;";
            check.same("limit " + limit, stop(town, "", takes(0, 0, 0, limit) + takes(0, 0, 1, 1)), limit);
            check.same("of all houses, goods", stop(town, "", takes(0, 0, 0, limit) + takes(0, 1, 0, 1)), limit);
            check.same("of a night", stop(town, "", takes(0, 0, 0, limit) + "night;" + takes(0, 0, 1, limit + 1)), 2 * limit + 1);
            check.same("his own", stop(town, "", takes(1, 0, 1, 9) + takes(0, 0, 0, limit + 1)), 9 + limit);
        }
        // what he gives away he has taken all the same
        String town = "has 0 0 9;needs 1 0 9;thief 2;";
        check.same("gifts give no room", stop(town, "", "take 0 0 0;take 0 0 0;give 0 1 0;give 0 1 0;take 0 0 0;"), 4);
        // what is left of one night's limit is not there in the next
        check.same("no more for less before", stop(town, "", "take 0 0 0;night;night;" + takes(0, 0, 0, 3)), 5);
    }

    /** "one goes from his BAG" */
    private static void bags() {
        String town = "has 0 0 9;has 0 1 9;needs 1 0 9;needs 1 1 9;thief 9;thief 9;";
        check.same("nothing in it", stop(town, "", gives(0, 1, 0, 1)), 0);
        for (int n = 1; n <= 9; n++) {
            check.same("as many as he took", stop(town, "", takes(0, 0, 0, n) + gives(0, 1, 0, 10)), 2 * n);
        }
        check.same("of that good", stop(town, "", takes(0, 0, 0, 1) + gives(0, 1, 1, 1)), 1);
        check.same("his own", stop(town, "", takes(1, 0, 0, 1) + gives(0, 1, 0, 1)), 1);
        check.same("in a later night, too", stop(town, "", takes(0, 0, 0, 1) + "night;night;" + gives(0, 1, 0, 2)), 4);
        Source s = Source.of(town, "", takes(0, 0, 0, 3) + gives(0, 1, 0, 2));
        check.row("the bag, the house, taken", new int[] {s.on().goods(0, 0, 0, 5, 0, NONE, 0),
            s.on().goods(0, 0, 0, 5, NONE, 1, 0), s.on().goods(0, 0, 0, 5, 0, 0, 0), s.on().goods(0, 0, 0, 5, 0, 1, 0)},
            1, 2, 3, 0);
    }

    /** "to a HOUSE that LACKS it (NEEDS more than it HAS)" */
    private static void houseThatLacks() {
        for (int needs = 0; needs <= 9; needs++) {
            for (int has = 0; has <= 9; has++) {
                String town = "has 0 0 9;needs 1 0 " + needs + ";has 1 0 " + has + ";thief 9;";
                check.same("needs " + needs + ", has " + has, stop(town, "", takes(0, 0, 0, 9) + gives(0, 1, 0, 10)),
                    9 + Math.max(0, needs - has));
            }
        }
        // a house comes to lack what others take from it
        String town = "has 0 0 9;has 1 0 2;needs 1 0 2;thief 9;thief 9;";
        check.same("lacks none yet", stop(town, "", "take 0 0 0;give 0 1 0;"), 1);
        check.same("lacks one then", stop(town, "", "take 0 0 0;take 0 0 0;take 1 1 0;give 0 1 0;give 0 1 0;"), 4);
        check.same("another good", stop("has 0 0 9;needs 1 1 9;thief 9;", "", "take 0 0 0;give 0 1 0;"), 1);
    }

    /** "from which he has never taken that GOOD" */
    private static void neverTaken() {
        String town = "has 0 0 9;has 1 0 9;has 0 1 9;needs 1 0 9;needs 1 1 9;needs 0 0 9;thief 9;thief 9;";
        check.same("he has", stop(town, "", "take 0 0 0;take 0 1 0;give 0 1 0;"), 2);
        check.same("in an earlier night", stop(town, "", "take 0 1 0;night;night;take 0 0 0;give 0 1 0;give 0 0 0;"), 4);
        check.same("another good of it", stop(town, "", "take 0 1 0;take 0 0 1;give 0 1 1;"), 3);
        check.same("of another house", stop(town, "", "take 0 0 0;take 1 1 0;give 0 1 0;"), 3);
        check.same("another one has", stop(town, "", "take 1 1 0;take 0 0 0;give 0 1 0;give 1 0 0;"), 4);
    }

    /** "it counts 1, in a DOUBLE night 2", of nights 0 .. 19. */
    private static void counts() {
        String town = "has 0 0 9;needs 1 0 9;thief 9;";
        for (int twice : new int[] {0, 1, 7, 18, 19}) {
            for (int night = 0; night < 30; night++) {
                Source s = Source.of(town, "double " + twice + ";", "take 0 0 0;take 0 0 0;" + "night;".repeat(night) + "give 0 1 0;");
                int due = night == twice ? 2 : 1;
                check.row("a gift in night " + night + ", double " + twice, states(s, night + 3, 0, 20, 30, 40),
                    night, 2, due, 1 - due);
            }
        }
        Source s = Source.of(town, "double 1;", takes(0, 0, 0, 4) + "give 0 1 0;night;give 0 1 0;night;give 0 1 0;");
        check.row("GIVEN deed by deed", new int[] {s.on().state(0, 0, 0, 4, 30), s.on().state(0, 0, 0, 5, 30),
            s.on().state(0, 0, 0, 7, 30), s.on().state(0, 0, 0, 9, 30)}, 0, 1, 3, 4);
        // behind night 31 no bit of a number comes round again
        for (int night = 30; night <= 37; night++) {
            Source t = Source.of(town, "double 0;double 1;double 2;double 3;double 4;double 5;",
                "take 0 0 0;" + "night;".repeat(night) + "give 0 1 0;");
            check.same("a gift in night " + night, t.on().state(0, 0, 0, night + 2, 30), 1);
        }
    }

    /** "DUE: TAKEN by RATE (cut)", "ODD: TAKEN by RATE, remainder", "below 0: he is ahead" */
    private static void due() {
        for (int rate = 2; rate <= 5; rate++) {
            Source s = Source.of("has 0 0 9;has 0 1 9;thief 9;", "rate " + rate + ";",
                takes(0, 0, 0, 9) + "night;" + takes(0, 0, 1, 9));
            for (int n = 0; n <= 19; n++) {
                int taken = n > 9 ? n - 1 : n;
                check.row("rate " + rate + ", taken " + taken, states(s, n, 20, 40, 10), taken, taken / rate,
                    taken % rate > 0 ? 0 : NONE);
            }
        }
        Source s = Source.of("has 0 0 9;needs 1 0 9;thief 9;", "rate 5;", takes(0, 0, 0, 9) + gives(0, 1, 0, 9));
        for (int n = 9; n <= 18; n++) {
            check.row("ahead", states(s, n, 30, 40), n - 9, 1 - (n - 9));
        }
    }

    /** A thief who owes so many (rate 2), and one who is ahead by so many. */
    private static String owing(int owes, int ahead) {
        return takes(0, 0, 0, 2 * owes) + takes(1, 0, 1, ahead) + gives(1, 1, 1, ahead);
    }

    /** "the first one OWES n or more, the second one is ahead by n or more: GIVEN of the first is n more, of the second n less." */
    private static void sets() {
        String town = "has 0 0 9;has 0 1 9;needs 1 1 9;thief 9;thief 9;";
        for (int owes = 0; owes <= 4; owes++) {
            // the second takes as many as he gives, so is ahead by the half of them
            for (int gifts = 0; gifts <= 9; gifts++) {
                int ahead = gifts - gifts / 2;
                for (int n = 1; n <= 5; n++) {
                    String nights = owing(owes, gifts);
                    int deeds = 2 * owes + 2 * gifts;
                    boolean can = n <= owes && n <= ahead;
                    Source s = Source.of(town, "", nights + "set 0 1 " + n + ";");
                    check.same("set " + n + " of " + owes + ", " + ahead, s.on().stop(0, 0, 0), can ? deeds + 1 : deeds);
                    if (can) {
                        check.row("GIVEN, OWES", states(s, deeds + 1, 30, 31, 40, 41, 20, 21), n, gifts - n, owes - n, n - ahead,
                            2 * owes, gifts);
                    }
                }
            }
        }
        check.same("the wrong way round", stop(town, "", owing(2, 4) + "set 1 0 1;"), 12);
        check.same("nobody owes", stop(town, "", "set 0 1 1;"), 0);
        check.same("till nothing is owed", stop(town, "", owing(2, 9) + "set 0 1 1;set 0 1 1;set 0 1 1;"), 24);
        check.same("till he is not ahead", stop(town, "", owing(4, 4) + "set 0 1 1;set 0 1 1;set 0 1 1;"), 18);
    }

    /** As many as a set can be of. */
    private static void setsOfNine() {
        String town = "has 0 0 9;has 0 1 9;has 0 2 9;needs 1 2 9;thief 9;thief 9;";
        String nights = takes(0, 0, 0, 9) + takes(1, 0, 2, 6) + gives(1, 1, 2, 6) + "night;" + takes(0, 0, 1, 9);
        check.same("owes 9, ahead by 9", stop(town, "double 0;", nights + "set 0 1 9;"), 32);
        check.same("and 8 alone", stop(town, "double 0;", nights + "set 0 1 8;set 0 1 1;set 0 1 1;"), 33);
        String less = takes(0, 0, 0, 9) + takes(1, 0, 2, 6) + gives(1, 1, 2, 6) + "night;" + takes(0, 0, 1, 8);
        check.same("owes 8, ahead by 9", stop(town, "double 0;", less + "set 0 1 9;"), 30);
        check.same("owes 9, ahead by 3", stop(town, "", nights + "set 0 1 9;"), 31);
    }

    /** "neither of whom is the other's FATHER" */
    private static void kin() {
        String town = "has 0 0 9;has 0 1 9;needs 1 1 9;thief 9;thief 9;thief 9;";
        String nights = owing(1, 2) + "set 0 1 1;";
        check.same("no kin", stop(town, "", nights), 7);
        check.same("the first's father", stop(town + "son 0 1;", "", nights), 6);
        check.same("the second's father", stop(town + "son 1 0;", "", nights), 6);
        check.same("each other's father", stop(town + "son 0 1;son 1 0;", "", nights), 6);
        check.same("another one's son", stop(town + "son 0 2;", "", nights), 7);
        check.same("another one's father", stop(town + "son 2 0;son 1 2;", "", nights), 7);
        check.same("brothers", stop(town + "son 0 2;son 1 2;", "", nights), 7);
        check.same("a father that was struck", stop(town + "son 0 1;son 0 2;", "", nights), 7);
    }

    /** "TRACE is more by WATCH of all HOUSES to which he gave in this night (of each gift)" */
    private static void traces() {
        String town = "has 0 0 9;needs 1 0 9;needs 2 0 9;watch 0 9;watch 1 2;watch 2 5;thief 9;thief 9;";
        String nights = takes(0, 0, 0, 5) + "give 0 1 0;give 0 1 0;give 0 2 0;night;give 0 1 0;night;night;give 0 2 0;night;";
        Source s = Source.of(town, "catch 99;", nights);
        int[] due = {0, 0, 0, 0, 0, 0, 0, 0, 0, 9, 9, 11, 11, 11, 16};
        int[] night = {0, 0, 0, 0, 0, 0, 0, 0, 0, 1, 1, 2, 3, 3, 4};
        for (int n = 0; n < due.length; n++) {
            check.row("TRACE behind " + n, states(s, n, 50, 51, 0), due[n], 0, night[n]);
        }
        Source z = Source.of("has 0 0 9;needs 1 0 9;watch 0 9;thief 9;", "catch 1;", takes(0, 0, 0, 5) + gives(0, 1, 0, 5) + "night;");
        check.row("a house that nobody watches", states(z, 11, 50, 2), 0, 0);
    }

    /** "who has CATCH or more is CAUGHT", CATCH from 1 to 99. */
    private static void catchBounds() {
        String town = "has 0 0 9;has 0 1 9;needs 1 0 9;needs 1 1 9;needs 2 0 9;watch 1 9;watch 2 8;thief 9;thief 9;";
        for (int gifts = 0; gifts <= 9; gifts++) {
            for (int limit : new int[] {1, 8, 9, 10, 17, 18, 19, 80, 81, 82, 99}) {
                Source s = Source.of(town, "catch " + limit + ";", takes(0, 0, 0, 9) + gives(0, 1, 0, gifts) + "night;");
                check.row(gifts + " gifts, catch " + limit, states(s, 10 + gifts, 50, 2), 9 * gifts, 9 * gifts >= limit ? 1 : 0);
                check.same("not ahead of the night", s.on().state(0, 0, 0, 9 + gifts, 2), 0);
            }
        }
        String eleven = takes(0, 0, 0, 9) + "night;" + takes(0, 0, 1, 2) + gives(0, 1, 0, 9);
        Source s = Source.of(town, "catch 99;", eleven + gives(0, 1, 1, 2) + "night;");
        check.row("99 of 99", states(s, 24, 50, 2), 99, 1);
        String tenAndOne = takes(0, 0, 0, 9) + "night;" + takes(0, 0, 1, 2) + gives(0, 1, 0, 8) + gives(0, 2, 0, 1);
        s = Source.of(town, "catch 99;", tenAndOne + gives(0, 1, 1, 2) + "night;night;");
        check.row("98 of 99", states(s, 25, 50, 2), 98, 0);
        s = Source.of("has 0 0 2;needs 1 0 2;watch 1 1;thief 2;", "catch 1;", "take 0 0 0;give 0 1 0;night;");
        check.row("1 of 1", states(s, 3, 50, 2), 1, 1);
        s = Source.of("has 0 0 9;needs 1 0 9;watch 1 9;thief 9;", "", takes(0, 0, 0, 3) + gives(0, 1, 0, 3) + "night;");
        check.row("27 of 20, at first", states(s, 7, 50, 2), 27, 1);
        s = Source.of("has 0 0 9;needs 1 0 9;watch 1 9;thief 9;", "", takes(0, 0, 0, 2) + gives(0, 1, 0, 2) + "night;night;");
        check.row("18 of 20, at first", states(s, 6, 50, 2), 18, 0);
        s = Source.of("has 0 0 9;needs 1 0 9;watch 1 5;thief 1;thief 1;thief 1;thief 1;", "catch 5;",
            "take 0 0 0;take 1 0 0;take 3 0 0;give 3 1 0;give 1 1 0;night;night;give 0 1 0;night;");
        check.row("who", new int[] {s.on().state(0, 0, 0, 5, 2), s.on().state(0, 0, 0, 6, 2), s.on().state(0, 0, 0, 7, 2),
            s.on().state(0, 0, 0, 9, 2)}, 0, 10, 10, 11);
    }

    /** "then it is the next night": nights that nobody does anything in, up to all of them. */
    private static void afterTheNight() {
        Source s = Source.of("thief 1;", "", "night;".repeat(40));
        check.same("all can be", s.on().stop(0, 0, 0), 40);
        for (int n = 0; n <= 40; n++) {
            check.row("night " + n, states(s, n, 0, 2, 50), n, 0, 0);
        }
        Source t = Source.of("", "", "night;".repeat(40));
        check.row("without thieves", new int[] {t.on().stop(0, 0, 0), t.on().state(0, 0, 0, 40, 0), t.on().state(0, 0, 0, 40, 3)},
            40, 40, NONE);
    }

    /** "A DEED can't be, if there is no such THIEF, HOUSE" */
    private static void noSuchOnes() {
        for (int thieves = 0; thieves <= 4; thieves++) {
            String town = "houses 6;has 0 0 9;needs 1 0 9;" + "thief 9;".repeat(thieves);
            for (int t = 0; t < 4; t++) {
                check.same("take of " + t, stop(town, "", "take " + t + " 0 0;"), t < thieves ? 1 : 0);
                check.same("give of " + t, stop(town, "", "night;give " + t + " 1 0;"), 1);
                int deeds = t < thieves ? 2 : 0;
                check.same("take and give of " + t, stop(town, "", "take " + t + " 0 0;give " + t + " 1 0;"), deeds);
            }
        }
        for (int houses = 1; houses <= 6; houses++) {
            for (int h = 0; h < 6; h++) {
                String town = "houses " + houses + ";thief 9;thief 9;has 0 0 9;" + (h < houses ? "has " + h + " 0 9;" : "");
                check.same("take of house " + h, stop(town, "", "take 0 " + h + " 0;"), h < houses ? 1 : 0);
                if (h > 0) {
                    String needy = "houses " + houses + ";thief 9;has 0 0 9;" + (h < houses ? "needs " + h + " 0 9;" : "");
                    check.same("give to house " + h, stop(needy, "", "take 0 0 0;give 0 " + h + " 0;"), h < houses ? 2 : 1);
                }
            }
        }
        String two = "has 0 0 9;has 0 1 9;needs 1 1 9;thief 9;thief 9;";
        check.same("set with none such behind", stop(two, "", owing(1, 2) + "set 0 2 1;"), 6);
        check.same("set with none such ahead", stop(two, "", owing(1, 2) + "set 2 1 1;"), 6);
        check.same("set of none", stop("", "", "set 0 1 1;"), 0);
    }

    /** "a THIEF of it is CAUGHT" */
    private static void caughtOnes() {
        String town = "has 0 0 9;has 0 1 9;needs 1 0 9;needs 1 1 9;watch 1 5;thief 9;thief 9;thief 9;";
        // thief 0 gives and is caught, having more in his bag
        String caught = takes(0, 0, 0, 3) + "give 0 1 0;night;";
        check.same("take of one who is caught", stop(town, "catch 5;", caught + "take 0 0 0;"), 5);
        check.same("give of one who is caught", stop(town, "catch 5;", caught + "give 0 1 0;"), 5);
        check.same("take of one who is not", stop(town, "catch 6;", caught + "take 0 0 0;"), 6);
        check.same("give of one who is not", stop(town, "catch 6;", caught + "give 0 1 0;"), 6);
        check.same("take of another one", stop(town, "catch 5;", caught + "take 1 0 0;"), 6);
        check.same("nights go on", stop(town, "catch 5;", caught + "night;night;take 0 0 0;"), 7);
        // thief 0 is ahead and caught, thief 1 owes; then the other way round
        String ahead = "take 0 0 0;give 0 1 0;night;take 1 0 0;take 1 0 0;set 1 0 1;";
        check.same("set with one who is caught and ahead", stop(town, "catch 5;", ahead), 5);
        check.same("set with one who is not", stop(town, "catch 6;", ahead), 6);
        String owes = takes(0, 0, 0, 4) + "give 0 1 0;take 2 0 1;take 2 0 1;give 2 1 1;give 2 1 1;night;set 0 2 1;";
        check.same("set with one who is caught and owes", stop(town, "catch 5;", owes), 10);
        check.same("set with one who is not", stop(town, "catch 11;", owes), 11);
    }

    /** "STOP: the first DEED that can't be, else how many there are." */
    private static void stops() {
        String town = "has 0 0 9;thief 9;";
        check.same("no deeds", stop(town, "", ""), 0);
        check.same("the first can't be", stop(town, "", "take 0 1 0;night;"), 0);
        check.same("the last can't be", stop(town, "", "night;night;take 0 1 0;"), 2);
        check.same("the last of forty can't be", stop(town, "", "night;".repeat(39) + "take 0 1 0;"), 39);
        check.same("all of forty", stop(town, "", "night;".repeat(39) + "take 0 0 0;"), 40);
        check.same("behind one that can't be nothing is done", stop(town, "", "take 0 0 0;take 0 1 0;take 0 0 0;"), 1);
    }

    /** "A STATE is behind the first n DEEDS, n up to STOP." */
    private static void states() {
        Source s = Source.of("has 0 0 9;thief 9;", "", takes(0, 0, 0, 5) + "take 0 1 0;night;");
        for (int n = -3; n < 50; n++) {
            boolean is = n >= 0 && n <= 5;
            check.row("behind " + n, new int[] {s.on().state(0, 0, 0, n, 20), s.on().goods(0, 0, 0, n, NONE, 0, 0),
                s.on().goods(0, 0, 0, n, 0, NONE, 0), s.on().goods(0, 0, 0, n, 0, 0, 0), s.on().wealth(0, 0, 0, n, 20)},
                is ? new int[] {n, 9 - n, n, n, 9 - n} : new int[] {-1000, NONE, NONE, NONE, -1000});
        }
        for (int n : WILD) {
            check.row("behind " + n, new int[] {s.on().state(0, 0, 0, n, 0), s.on().goods(0, 0, 0, n, NONE, 0, 0),
                s.on().wealth(0, 0, 0, n, 0)}, -1000, NONE, -1000);
        }
        Source all = Source.of("thief 9;", "", "night;".repeat(40));
        check.row("all there are", states(all, 40, 0, 20), 40, 0);
        check.row("one more", states(all, 41, 0, 20), -1000, -1000);
        Source none = Source.of("", "", "");
        check.row("of no deeds", new int[] {none.on().state(0, 0, 0, 0, 0), none.on().state(0, 0, 0, 1, 0)}, 0, -1000);
    }

    /** Every what of state(), of as many houses and thieves as there can be. */
    private static void whatsOfState() {
        for (int houses = 1; houses <= 6; houses++) {
            for (int thieves = 0; thieves <= 4; thieves++) {
                Source s = Source.of("houses " + houses + ";" + "thief 1;".repeat(thieves), "", "");
                for (int what = -30; what < 130; what++) {
                    int at = Math.floorMod(what, 10);
                    int due = switch (Math.floorDiv(what, 10)) {
                        case 0 -> what < 3 ? 0 : what == 3 ? thieves > 0 ? 0 : NONE : -1000;
                        case 1 -> NONE;
                        case 2, 3, 4, 5 -> at < thieves ? 0 : -1000;
                        case 6 -> at < houses ? 0 : -1000;
                        default -> -1000;
                    };
                    check.same("state " + what, s.on().state(0, 0, 0, 0, what), due);
                }
                for (int what : new int[] {Integer.MIN_VALUE, -1000, 1 << 30, Integer.MAX_VALUE}) {
                    check.same("state " + what, s.on().state(0, 0, 0, 0, what), -1000);
                }
            }
        }
    }

    private static int[] queueOf(Source s, int n) {
        return states(s, n, 10, 11, 12, 13);
    }

    /** "THIEVES whose ODD is above 0, in the order in which they took their last one." */
    private static void queue() {
        Source s = Source.of("has 0 0 9;thief 9;thief 9;thief 9;thief 9;", "",
            "take 3 0 0;take 1 0 0;take 0 0 0;take 2 0 0;take 1 0 0;take 3 0 0;take 3 0 0;take 1 0 0;");
        int[][] due = {{NONE, NONE, NONE, NONE}, {3, NONE, NONE, NONE}, {3, 1, NONE, NONE}, {3, 1, 0, NONE}, {3, 1, 0, 2},
            {3, 0, 2, NONE}, {0, 2, NONE, NONE}, {0, 2, 3, NONE}, {0, 2, 3, 1}};
        for (int n = 0; n < due.length; n++) {
            check.row("the queue behind " + n, queueOf(s, n), due[n]);
        }
        // of rate 3 one who takes again, and is odd still, goes behind
        Source t = Source.of("has 0 0 9;thief 9;thief 9;", "rate 3;", "take 0 0 0;take 1 0 0;take 0 0 0;night;take 0 0 0;");
        int[][] three = {{NONE, NONE}, {0, NONE}, {0, 1}, {1, 0}, {1, 0}, {1, NONE}};
        for (int n = 0; n < three.length; n++) {
            check.row("the queue of three behind " + n, states(t, n, 10, 11), three[n]);
        }
    }

    /** "PIOUS: the THIEF of the least OWES (ahead is below 0); of several the least." */
    private static void pious() {
        Source s = Source.of("has 0 0 9;needs 1 0 9;thief 9;thief 9;thief 9;", "",
            "take 0 0 0;take 0 0 0;take 1 0 0;take 1 0 0;take 2 0 0;take 2 0 0;give 2 1 0;give 2 1 0;give 1 1 0;give 1 1 0;give 0 1 0;");
        int[] due = {0, 0, 1, 1, 2, 2, 0, 2, 2, 2, 1, 1};
        for (int n = 0; n < due.length; n++) {
            check.same("pious behind " + n, s.on().state(0, 0, 0, n, 3), due[n]);
        }
        Source caught = Source.of("has 0 0 9;needs 1 0 9;watch 1 9;thief 9;thief 9;", "catch 9;",
            "take 1 0 0;give 1 1 0;night;");
        check.row("one who is caught is one, too", states(caught, 3, 2, 3), 2, 1);
        check.same("none", Source.of("", "", "").on().state(0, 0, 0, 0, 3), NONE);
    }

    /** "WANT: what all HOUSES LACK, together." */
    private static void want() {
        Source s = Source.of("houses 2;has 0 0 3;needs 0 0 2;needs 1 0 1;needs 1 4 9;has 1 1 9;thief 9;", "",
            "take 0 0 0;take 0 0 0;give 0 1 0;");
        check.row("want", new int[] {s.on().state(0, 0, 0, 0, 1), s.on().state(0, 0, 0, 1, 1), s.on().state(0, 0, 0, 2, 1),
            s.on().state(0, 0, 0, 3, 1)}, 10, 10, 11, 10);
        StringBuilder all = new StringBuilder("houses 6;");
        for (int cell = 0; cell < 30; cell++) {
            all.append("needs " + cell / 5 + " " + cell % 5 + " 9;");
        }
        check.same("all that can be", Source.of(all.toString(), "", "").on().state(0, 0, 0, 0, 1), 270);
        check.same("nothing", Source.of("has 0 0 9;", "", "").on().state(0, 0, 0, 0, 1), 0);
    }

    /** "NONE: both are NONE, there is no such STATE, HOUSE, THIEF, GOOD." */
    private static void goodsOfAll() {
        for (int thieves = 0; thieves <= 4; thieves++) {
            for (int houses = 1; houses <= 6; houses++) {
                Source s = Source.of("houses " + houses + ";" + "thief 1;".repeat(thieves), "", "night;");
                for (int t = -3; t < 7; t++) {
                    for (int h = -3; h < 9; h++) {
                        boolean isThief = t >= 0 && t < thieves;
                        boolean isHouse = h >= 0 && h < houses;
                        boolean is = t == NONE && isHouse || h == NONE && isThief || isThief && isHouse;
                        check.same("goods " + t + " " + h, s.on().goods(0, 0, 0, 1, t, h, 4), is ? 0 : NONE);
                    }
                }
                for (int g = -2; g < 8; g++) {
                    check.same("good " + g, s.on().goods(0, 0, 0, 0, NONE, 0, g), g >= 0 && g < 5 ? 0 : NONE);
                }
                for (int wild : WILD) {
                    check.row("wild", new int[] {s.on().goods(0, 0, 0, 0, NONE, wild, 0), s.on().goods(0, 0, 0, 0, wild, NONE, 0),
                        s.on().goods(0, 0, 0, 0, NONE, 0, wild), s.on().goods(0, 0, 0, 0, wild, wild, 0)}, NONE, NONE, NONE, NONE);
                }
            }
        }
    }
}
