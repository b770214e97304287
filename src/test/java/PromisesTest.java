import java.util.HashMap;
import java.util.List;
import java.util.Map;

/** Promises 6 to 30, worked by hand in one town; wrong numbers of each call. */
public final class PromisesTest {
    private static final int NONE = OneBack.NONE;
    private static final Check check = new Check("PromisesTest");
    private static final String TOWN = "houses 3;has 0 0 5;has 0 1 3;has 1 0 1;needs 1 1 2;needs 2 0 2;needs 2 1 1;"
        + "watch 0 3;watch 2 4;worth 1 3;weight 1 2;thief 3;thief 2;thief 1;son 1 0;passes 0 1;passes 1 0;passes 2 0;";
    private static final String NIGHTS = "take 0 0 0;take 0 0 1;take 0 0 1;give 0 1 1;take 1 0 0;night;give 0 2 0;"
        + "take 2 0 1;set 1 0 1;night;";
    private static final Source x = new Source()
        .tell(0, TOWN)
        .tell(1, "rate 2;catch 8;double 1;")
        .tell(2, NIGHTS)
        .tell(2, "take 1 0 0;take 1 0 0;take 2 0 0;give 2 2 0;set 1 2 1;night;night;")
        .tell(3, "given 1 1;given 2 0;left 0 0 3;left 1 0 1;left 2 0 2;")
        .tell(3, "given 1 1;given 1 1;left 0 0 1;left 1 0 1;left 2 0 1;")
        .tell(0, "houses 1;");

    public static void main(String[] args) {
        told();
        laterOnes();
        state();
        deedsThatCantBe();
        caught();
        supply();
        cows();
        sights();
        quits();
        alms();
        game();
        small();
        drawn();
        wrong();
        check.finish();
    }

    private static void told() {
        check.row("town", new int[] {x.on().town(0, 0), x.on().town(0, 1), x.on().town(0, 10), x.on().town(0, 12), x.on().town(0, 13), x.on().town(0, 20),
            x.on().town(0, 22), x.on().town(0, 31), x.on().town(0, 35), x.on().town(0, 41), x.on().town(0, 44), x.on().town(0, 50), x.on().town(0, 53),
            x.on().town(0, 60), x.on().town(0, 61), x.on().town(0, 63), x.on().town(0, 70), x.on().town(0, 2), x.on().town(0, -1)},
            3, 3, 3, 4, -2, 1, 0, 2, -2, 3, 1, 3, -2, NONE, 0, -2, -2, -2, -2);
        check.row("house", new int[] {x.on().house(0, 0, 1, 0), x.on().house(0, 2, 0, 1), x.on().house(0, 0, 0, 2), x.on().house(0, 2, 0, 2),
            x.on().house(0, 2, 0, 3), x.on().house(0, 0, 0, 3), x.on().house(0, 0, 0, 4), x.on().house(0, 3, 0, 0), x.on().house(0, 0, 5, 0)},
            3, 2, 5, 0, 2, 0, NONE, NONE, NONE);
        check.row("law", new int[] {x.on().law(0, 0), x.on().law(0, 1), x.on().law(0, 10), x.on().law(0, 11), x.on().law(0, 29), x.on().law(0, 30),
            x.on().law(0, 9), x.on().law(0, 2), x.on().law(0, -1)}, 2, 8, 0, 1, 0, NONE, NONE, NONE, NONE);
        check.row("deed", new int[] {x.on().deed(0, NONE, 0), x.on().deed(0, NONE, 1), x.on().deed(0, 1, 0), x.on().deed(0, 1, 3), x.on().deed(0, 3, 0),
            x.on().deed(0, 3, 2), x.on().deed(0, 5, 0), x.on().deed(0, 5, 1), x.on().deed(0, 5, 3), x.on().deed(0, 8, 0), x.on().deed(0, 8, 1),
            x.on().deed(0, 8, 2), x.on().deed(0, 8, 3), x.on().deed(0, 10, 0), x.on().deed(0, -2, 0), x.on().deed(0, 0, 4), x.on().deed(0, 0, -1)},
            10, -2, 0, 1, 1, 1, 3, NONE, NONE, 2, 1, 0, 1, -2, -2, -2, -2);
        check.row("sight", new int[] {x.on().sight(0, 0), x.on().sight(0, 10), x.on().sight(0, 11), x.on().sight(0, 12), x.on().sight(0, 20),
            x.on().sight(0, 21), x.on().sight(0, 22), x.on().sight(0, 30), x.on().sight(0, 40), x.on().sight(0, 31), x.on().sight(0, 59), x.on().sight(0, 60),
            x.on().sight(0, 1), x.on().sight(0, -1)}, 2, 1, 2, -2, 1, 0, -2, 3, 2, NONE, NONE, -2, -2, -2);
    }

    /** Later ones strike, but thieves, double nights, deeds and gifts are further ones. */
    private static void laterOnes() {
        OneBack y = new OneBack();
        Check.tell(y, 0, "has 0 0 1;has 0 0 2;needs 0 0 9;needs 0 0 0;watch 1 5;watch 1 6;passes 0 1;passes 0 2;"
            + "weight 0 9;weight 0 8;worth 0 7;worth 0 0;thief 4;thief 4;thief 5;son 0 1;son 0 2;houses 6;houses 4;");
        check.row("later ones", new int[] {y.house(0, 0, 0, 0), y.house(0, 0, 0, 1), y.town(0, 11), y.town(0, 20), y.town(0, 30),
            y.town(0, 40), y.town(0, 1), y.town(0, 52), y.town(0, 60), y.town(0, 0)}, 2, 0, 6, 2, 8, 0, 3, 5, 2, 4);
        Check.tell(y, 1, "rate 5;rate 3;catch 1;catch 99;double 0;double 19;double 0;");
        check.row("later laws", new int[] {y.law(0, 0), y.law(0, 1), y.law(0, 10), y.law(0, 11), y.law(0, 29)}, 3, 99, 1, 0, 1);
        Check.tell(y, 3, "left 5 4 18;left 5 4 17;given 5 4;given 5 4;");
        check.row("later sights", new int[] {y.sight(0, 59), y.sight(0, 0)}, 17, 2);
        OneBack z = new OneBack();
        Check.tell(z, 0, "");
        Check.tell(z, 1, "");
        Check.tell(z, 2, "");
        Check.tell(z, 3, "");
        check.row("at first", new int[] {z.town(0, 0), z.town(0, 1), z.town(0, 10), z.town(0, 22), z.town(0, 34), z.town(0, 44),
            z.house(0, 2, 4, 0), z.law(0, 0), z.law(0, 1), z.law(0, 15), z.deed(0, NONE, 0), z.sight(0, 0), z.sight(0, 30),
            z.stop(0, 0, 0), z.state(0, 0, 0, 0, 3)}, 3, 0, 0, 2, 1, 1, 0, 2, 20, 0, 0, 0, NONE, 0, NONE);
    }

    private static int[] states(int nights, int n, int... whats) {
        int[] all = new int[whats.length];
        for (int i = 0; i < whats.length; i++) {
            all[i] = x.on().state(0, 0, nights, n, whats[i]);
        }
        return all;
    }

    private static void state() {
        check.same("stop", x.on().stop(0, 0, 0), 8);
        check.same("stop", x.on().stop(0, 0, 1), 7);
        check.row("state 8", states(0, 8, 0, 1, 2, 3, 10, 11, 12, 13, 20, 21, 22, 23, 30, 40, 41, 50, 60, 61, 63),
            1, 3, 0, 0, 0, 1, 2, NONE, 3, 1, 1, -1000, 3, -2, 0, 0, 5, 0, -1000);
        check.row("state 5", states(0, 5, 0, 1, 10, 11, 12, 40, 60), 0, 4, 0, 1, NONE, 0, 4);
        check.row("state 9", states(0, 9, 0, 1), -1000, -1000);
        check.row("state -1", states(0, -1, 0, 1), -1000, -1000);
        check.row("other whats", states(0, 0, 4, 9, 70, -1, 24, 29), -1000, -1000, -1000, -1000, -1000, -1000);
        check.row("second", states(1, 7, 0, 2, 3, 10, 11, 21, 31, 41, 32, 52), 2, 0, 0, 2, NONE, 2, 1, 0, 0, 4);
        check.row("second at 5", states(1, 5, 41, 42, 52, 31, 32), 0, 0, 0, 1, 0);
        check.row("second at 4", states(1, 4, 3, 41, 42), 2, 1, -1);
        check.row("goods", new int[] {x.on().goods(0, 0, 0, 8, NONE, 0, 0), x.on().goods(0, 0, 0, 8, NONE, 1, 1), x.on().goods(0, 0, 0, 8, 0, NONE, 1),
            x.on().goods(0, 0, 0, 8, 0, NONE, 0), x.on().goods(0, 0, 0, 8, 0, 0, 1), x.on().goods(0, 0, 0, 8, 2, 0, 1),
            x.on().goods(0, 0, 0, 8, NONE, NONE, 0), x.on().goods(0, 0, 0, 9, NONE, 0, 0), x.on().goods(0, 0, 0, 8, 3, NONE, 0),
            x.on().goods(0, 0, 0, 8, NONE, 3, 0), x.on().goods(0, 0, 0, 8, 0, 3, 0), x.on().goods(0, 0, 0, 8, 0, 0, 5),
            x.on().goods(0, 0, 0, 8, -2, 0, 0), x.on().goods(0, 0, 0, 8, 0, -2, 0)},
            3, 1, 1, 0, 2, 1, NONE, NONE, NONE, NONE, NONE, NONE, NONE, NONE);
        check.row("wealth", new int[] {x.on().wealth(0, 0, 1, 4, 0), x.on().wealth(0, 0, 1, 5, 0), x.on().wealth(0, 0, 0, 8, 20),
            x.on().wealth(0, 0, 0, 8, 21), x.on().wealth(0, 0, 0, 8, 22), x.on().wealth(0, 0, 0, 8, 1), x.on().wealth(0, 0, 0, 8, 2),
            x.on().wealth(0, 0, 0, 8, 3), x.on().wealth(0, 0, 0, 8, 4), x.on().wealth(0, 0, 0, 8, 30), x.on().wealth(0, 0, 0, 8, 31),
            x.on().wealth(0, 0, 0, 8, 32), x.on().wealth(0, 0, 0, 8, 33), x.on().wealth(0, 0, 0, 8, 10), x.on().wealth(0, 0, 0, 8, 11),
            x.on().wealth(0, 0, 0, 8, 12), x.on().wealth(0, 0, 0, 8, 13), x.on().wealth(0, 0, 0, 8, 5), x.on().wealth(0, 0, 0, 9, 0)},
            1, 0, 3, 4, 1, 3, 1, 4, 1, 1, 0, 2, -1000, 1, 1, 1, -1000, -1000, -1000);
    }

    private static int stopOf(String town, String law, String nights) {
        OneBack y = new OneBack();
        check.same(town, Check.tell(y, 0, town), 0);
        check.same(law, Check.tell(y, 1, law), 0);
        check.same(nights, Check.tell(y, 2, nights), 0);
        return y.stop(0, 0, 0);
    }

    private static void deedsThatCantBe() {
        String town = "has 0 0 9;needs 1 0 9;needs 2 0 1;has 2 0 1;needs 0 0 9;thief 2;thief 9;thief 9;";
        check.same("no such thief", stopOf(town, "", "night;take 3 0 0;night;"), 1);
        check.same("no such house", stopOf(town, "", "take 0 3 0;"), 0);
        check.same("it has none", stopOf(town, "", "take 0 1 0;"), 0);
        check.same("the limit", stopOf(town, "", "take 0 0 0;take 0 0 0;take 0 0 0;"), 2);
        check.same("the limit of a night", stopOf(town, "", "take 0 0 0;take 0 0 0;night;take 0 0 0;"), 4);
        check.same("nothing in the bag", stopOf(town, "", "give 0 1 0;"), 0);
        check.same("another's bag", stopOf(town, "", "take 1 0 0;give 0 1 0;"), 1);
        check.same("a house that lacks none", stopOf(town, "", "take 0 0 0;give 0 2 0;"), 1);
        check.same("from which he has taken it", stopOf(town, "", "take 0 0 0;give 0 0 0;"), 1);
        check.same("from which another one has taken it", stopOf(town, "", "take 0 0 0;take 1 2 0;give 1 0 0;give 1 0 0;"), 3);
        check.same("give beyond what he owes", stopOf(town, "", "take 0 0 0;take 0 0 0;give 0 1 0;give 0 1 0;"), 4);
        String ahead = "take 0 0 0;give 0 1 0;take 1 0 0;take 1 0 0;";
        check.same("set", stopOf(town, "", ahead + "set 1 0 1;"), 5);
        check.same("set twice", stopOf(town, "", ahead + "set 1 0 1;set 1 0 1;"), 5);
        check.same("set too many", stopOf(town, "", ahead + "set 1 0 2;"), 4);
        check.same("set the wrong way", stopOf(town, "", ahead + "set 0 1 1;"), 4);
        check.same("set of a son", stopOf(town + "son 1 0;", "", ahead + "set 1 0 1;"), 4);
        check.same("set of a father", stopOf(town + "son 0 1;", "", ahead + "set 1 0 1;"), 4);
        check.same("set of brothers", stopOf(town + "son 0 2;son 1 2;", "", ahead + "set 1 0 1;"), 5);
        check.same("a double night", stopOf(town, "double 0;", ahead + "take 1 0 0;take 1 0 0;set 1 0 2;"), 7);
        check.same("a night that is not double", stopOf(town, "double 1;", ahead + "take 1 0 0;take 1 0 0;set 1 0 2;"), 6);
        check.same("rate 3", stopOf(town, "rate 3;", ahead + "set 1 0 1;"), 4);
        check.same("rate 3", stopOf(town, "rate 3;", ahead + "take 1 0 0;set 1 0 1;"), 6);
    }

    private static void caught() {
        String town = "has 0 0 9;needs 1 0 9;watch 1 2;watch 0 9;thief 9;thief 9;";
        String nights = "take 0 0 0;take 0 0 0;give 0 1 0;give 0 1 0;";
        check.same("not ahead of the night", stopOf(town, "catch 4;", nights + "take 0 0 0;night;"), 6);
        check.same("caught", stopOf(town, "catch 4;", nights + "night;take 1 0 0;take 0 0 0;"), 6);
        check.same("just not caught", stopOf(town, "catch 5;", nights + "night;take 1 0 0;take 0 0 0;"), 7);
        check.same("caught later", stopOf(town, "catch 5;", nights + "take 0 0 0;night;give 0 1 0;night;take 0 0 0;"), 8);
        OneBack y = new OneBack();
        Check.tell(y, 0, town);
        Check.tell(y, 1, "catch 4;");
        Check.tell(y, 2, "take 0 0 0;" + nights + "night;take 1 0 0;take 1 0 0;set 1 0 1;");
        check.row("caught", new int[] {y.stop(0, 0, 0), y.state(0, 0, 0, 5, 2), y.state(0, 0, 0, 6, 2), y.state(0, 0, 0, 5, 50),
            y.state(0, 0, 0, 6, 50), y.state(0, 0, 0, 8, 3), y.wealth(0, 0, 0, 8, 10), y.wealth(0, 0, 0, 5, 10),
            y.wealth(0, 0, 0, 8, 11), y.wealth(0, 0, 0, 8, 0)}, 8, 0, 1, 0, 4, 0, 0, 1, 2, 0);
    }

    private static void supply() {
        check.row("aid", new int[] {x.on().aid(0, 0), x.on().aid(0, 1), x.on().aid(0, 2), x.on().aid(0, 10), x.on().aid(0, 11), x.on().aid(0, 15), x.on().aid(0, 24),
            x.on().aid(0, 25), x.on().aid(0, 3), x.on().aid(0, 9), x.on().aid(0, -1)}, 12, 5, 1, 1, 3, 1, 0, -2, -2, -2, -2);
        check.same("carry", x.on().carry(0), 11);
        check.row("nothing to take", new int[] {x.on().aid(1, 0), x.on().aid(1, 1), x.on().aid(1, 2), x.on().aid(1, 15), x.on().carry(1)}, 0, 0, 0, -2, 0);
        OneBack y = new OneBack();
        Check.tell(y, 0, "has 0 1 2;needs 1 1 3;");
        check.row("not enough", new int[] {y.aid(0, 0), y.aid(0, 1), y.aid(0, 2), y.aid(0, 11), y.aid(0, 25), y.carry(0)},
            NONE, NONE, NONE, NONE, -2, NONE);
        Check.tell(y, 0, 0, "has 0 1 3;needs 1 1 3;");
        check.row("no thieves", new int[] {y.aid(0, 0), y.aid(0, 1), y.aid(0, 2), y.aid(0, 11)}, 0, 3, NONE, 3);
        Check.tell(y, 0, 0, "houses 4;has 0 1 3;has 3 1 3;has 2 1 1;needs 1 1 5;watch 2 1;thief 2;");
        check.row("like watches", new int[] {y.aid(0, 0), y.aid(0, 2), y.aid(0, 11), y.aid(0, 21), y.aid(0, 26), y.carry(0)},
            0, 3, 3, 0, 2, 6);
        check.row("even", new int[] {x.on().even(0, 0), x.on().even(0, 1), x.on().even(0, 2), x.on().even(0, 5), x.on().even(0, -1), x.on().even(1, 0)},
            3, 2, 0, NONE, NONE, 0);
    }

    private static void cows() {
        check.row("round", new int[] {x.on().round(0, 0), x.on().round(0, 1), x.on().round(0, 2), x.on().round(0, NONE), x.on().round(0, 3), x.on().round(0, -2),
            x.on().round(1, 0), x.on().round(1, NONE)}, 2, 2, NONE, NONE, NONE, NONE, 1, 1);
        check.row("meets", new int[] {x.on().meets(0, 0, 1), x.on().meets(0, 0, 2), x.on().meets(0, 1, 2), x.on().meets(0, 2, 1), x.on().meets(0, 1, 1),
            x.on().meets(0, 0, 3), x.on().meets(0, -1, 0)}, NONE, NONE, 1, 1, 0, NONE, NONE);
        OneBack y = new OneBack();
        Check.tell(y, 0, "houses 6;passes 0 1;passes 1 2;passes 2 0;passes 3 4;passes 4 3;");
        check.row("all", new int[] {y.round(0, 0), y.round(0, 3), y.round(0, 5), y.round(0, NONE)}, 3, 2, 1, 6);
        Check.tell(y, 0, 0, "houses 6;passes 5 4;passes 4 3;passes 3 2;passes 2 1;passes 1 0;");
        check.row("down", new int[] {y.meets(0, 5, 0), y.meets(0, 5, 4), y.round(0, 5), y.round(0, 0), y.round(0, NONE)},
            5, 5, NONE, 1, NONE);
    }

    private static void sights() {
        check.row("hands", new int[] {x.on().hands(0, 0, 0, 0, NONE), x.on().hands(0, 0, 0, 0, 0), x.on().hands(0, 0, 0, 0, 1),
            x.on().hands(0, 0, 0, 0, 2), x.on().hands(0, 0, 0, 0, -2), x.on().hands(0, 0, 0, 1, NONE), x.on().hands(0, 0, 0, 1, 0)},
            1, 1, 1, NONE, NONE, 0, 0);
        check.row("moved", new int[] {x.on().moved(0, 0, false), x.on().moved(0, 0, true), x.on().moved(0, 1, false), x.on().moved(0, 1, true)},
            4, 2, NONE, NONE);
        OneBack y = new OneBack();
        Check.tell(y, 0, "has 0 0 9;needs 1 0 9;needs 2 0 9;thief 9;thief 9;thief 9;");
        Check.tell(y, 1, "");
        Check.tell(y, 2, "take 0 0 0;take 0 0 0;take 1 0 0;take 2 0 0;give 0 1 0;give 0 1 0;give 1 1 0;give 2 2 0;");
        Check.tell(y, 3, "");
        Check.tell(y, 3, "given 1 0;given 2 0;given 1 0;");
        check.row("ways", new int[] {y.hands(0, 0, 0, 0, NONE), y.hands(0, 0, 0, 0, 0), y.hands(0, 0, 0, 1, NONE),
            y.hands(0, 0, 0, 1, 0), y.hands(0, 0, 0, 1, 1), y.hands(0, 0, 0, 1, 2)}, 1, NONE, 3, 3, 4, 3);
        // of a good that is not told of each house nothing is asked
        Check.tell(y, 3, 0, "left 0 0 1;left 1 0 8;left 0 1 0;left 1 1 0;left 2 1 0;");
        check.row("not told", new int[] {y.moved(0, 0, false), y.moved(0, 0, true)}, 0, 0);
        Check.tell(y, 3, 0, "left 0 0 1;left 1 0 6;left 2 0 2;left 5 0 18;");
        check.row("told", new int[] {y.moved(0, 0, false), y.moved(0, 0, true)}, 10, 8);
    }

    private static void quits() {
        check.row("quit", new int[] {x.on().quit(0, 5, 2, 0, 1), x.on().quit(0, 5, 2, 0, 0), x.on().quit(0, 5, 2, 0, NONE), x.on().quit(0, 4, 2, 0, 60),
            x.on().quit(0, 3, 2, 0, 9), x.on().quit(0, 1, 1, 1, 1), x.on().quit(0, 0, 1, 3, 3), x.on().quit(0, 0, 1, 3, NONE),
            x.on().quit(0, 0, 1, 3, 2), x.on().quit(0, 3, 9, 3, 2), x.on().quit(0, 40, 1, 19, NONE), x.on().quit(0, 40, 1, 19, 58),
            x.on().quit(0, 40, 1, 19, 57), x.on().quit(0, 40, 9, 0, 60)},
            3, NONE, 1, 2, 2, 1, 0, 3, NONE, NONE, 58, 40, NONE, 31);
        check.row("other numbers", new int[] {x.on().quit(0, -1, 1, 0, 0), x.on().quit(0, 41, 9, 0, 60), x.on().quit(0, 1, 0, 0, 60),
            x.on().quit(0, 1, 10, 0, 60), x.on().quit(0, 1, 1, -1, 60), x.on().quit(0, 1, 1, 20, 60), x.on().quit(0, 1, 1, 0, 61),
            x.on().quit(0, 1, 1, 0, -2), x.on().quit(1, 1, 1, 0, 60)}, NONE, NONE, NONE, NONE, NONE, NONE, NONE, NONE, NONE);
    }

    private static void alms() {
        int[] light = light();
        for (int n = 1; n <= 60; n++) {
            check.same("alms " + n, x.on().alms(n, false), light[n]);
            int due = n == 1 ? 0 : n == 2 ? NONE : n <= 4 ? 2 : n <= 13 ? 3 : n <= 40 ? 4 : 5;
            check.same("heavy alms " + n, x.on().alms(n, true), due);
        }
        for (int n = 3; n <= 60; n++) {
            int w = x.on().alms(n, true);
            check.same("found " + n, finds(n, 0, 0, 0, w), true);
            check.same("not found by less " + n, finds(n, 0, 0, 0, w - 1), false);
        }
        for (boolean heavy : new boolean[] {false, true}) {
            check.row("other alms", new int[] {x.on().alms(0, heavy), x.on().alms(61, heavy), x.on().alms(-1, heavy)}, NONE, NONE, NONE);
        }
    }

    /** Fewest weighings of up to sixty, of which one is lighter: all ways to weigh some against as many. */
    private static int[] light() {
        int[] all = new int[61];
        for (int n = 2; n <= 60; n++) {
            all[n] = 99;
            for (int k = 1; 2 * k <= n; k++) {
                all[n] = Math.min(all[n], 1 + Math.max(all[k], all[n - 2 * k]));
            }
        }
        return all;
    }

    private static final Map<List<Integer>, Boolean> FOUND = new HashMap<>();

    /** Whether w weighings find it: u may be of either kind, l lighter, h heavier, s are sound. */
    private static boolean finds(int u, int l, int h, int s, int w) {
        if (u + l + h <= 1) {
            return true;
        }
        if (w == 0 || 2 * u + l + h > 2 * Math.pow(3, w)) {
            return false;
        }
        List<Integer> key = List.of(u, l, h, s, w);
        Boolean known = FOUND.get(key);
        if (known == null) {
            known = findsByTrial(u, l, h, s, w);
            FOUND.put(key, known);
        }
        return known;
    }

    private static boolean findsByTrial(int u, int l, int h, int s, int w) {
        for (int u1 = 0; u1 <= u; u1++) {
            for (int u2 = 0; u1 + u2 <= u; u2++) {
                for (int l1 = 0; l1 <= l; l1++) {
                    for (int l2 = 0; l1 + l2 <= l; l2++) {
                        for (int h1 = 0; h1 <= h; h1++) {
                            for (int h2 = 0; h1 + h2 <= h; h2++) {
                                int less = u2 + l2 + h2 - u1 - l1 - h1;
                                int all = u + l + h + s;
                                if (less >= 0 && less <= s && u2 + l2 + h2 > 0
                                    && finds(u - u1 - u2, l - l1 - l2, h - h1 - h2, all - (u - u1 - u2) - (l - l1 - l2) - (h - h1 - h2), w - 1)
                                    && finds(0, u1 + l1, u2 + h2, all - u1 - l1 - u2 - h2, w - 1)
                                    && finds(0, u2 + l2, u1 + h1, all - u2 - l2 - u1 - h1, w - 1)) {
                                    return true;
                                }
                            }
                        }
                    }
                }
            }
        }
        return false;
    }

    private static void game() {
        check.row("prize", new int[] {x.on().prize(0, 0, 1), x.on().prize(0, 0, 0), x.on().prize(0, 1, 0), x.on().prize(0, 1, 1), x.on().prize(0, 2, 0),
            x.on().prize(0, 2, 2), x.on().prize(0, 3, 0), x.on().prize(0, 0, 3), x.on().prize(0, -1, 0)}, 8, -2, 1, 0, -8, -12, -1000, -1000, -1000);
        check.row("rest", new int[] {x.on().rest(0, NONE), x.on().rest(0, 0), x.on().rest(0, 1), x.on().rest(0, 2), x.on().rest(0, -2), x.on().rest(1, NONE),
            x.on().rest(1, 0)}, 2, 1, 6, NONE, NONE, 1, 0);
        check.row("share", new int[] {x.on().share(0, 0, false), x.on().share(0, 0, true), x.on().share(0, 1, false), x.on().share(0, 1, true),
            x.on().share(0, 2, false), x.on().share(0, 2, true), x.on().share(1, 0, false), x.on().share(1, 0, true), x.on().share(0, 3, false),
            x.on().share(1, 1, true)}, 14, 15, 1, 15, 0, 1, 0, 1, NONE, NONE);
    }

    private static int[] haul(OneBack y, int house, int n, int w) {
        int[] all = new int[6];
        for (int i = 0; i < 6; i++) {
            all[i] = y.haul(0, house, n, w, i == 0 ? 0 : 9 + i);
        }
        return all;
    }

    private static void small() {
        check.row("haul", haul(x.make(), 0, 4, 6), 9, 0, 3, 0, 0, 0);
        check.row("haul of all", haul(x.make(), 0, 9, 99), 14, 5, 3, 0, 0, 0);
        check.row("haul of none", haul(x.make(), 0, 0, 99), 0, 0, 0, 0, 0, 0);
        check.row("haul of no weight", haul(x.make(), 0, 9, 0), 0, 0, 0, 0, 0, 0);
        OneBack y = new OneBack();
        Check.tell(y, 0, "has 0 0 9;has 0 1 9;has 0 2 9;worth 0 0;worth 1 2;worth 2 2;");
        check.row("most of the lesser good", haul(y, 0, 3, 9), 6, 0, 3, 0, 0, 0);
        check.row("of no worth, but for nothing", haul(y, 1, 9, 99), 0, 0, 0, 0, 0, 0);
        Check.tell(y, 0, 0, "has 0 0 9;has 0 1 1;worth 0 0;worth 1 2;");
        check.row("of no worth, but most", haul(y, 0, 4, 9), 2, 3, 1, 0, 0, 0);
        check.row("other hauls", new int[] {x.on().haul(0, 0, -1, 0, 0), x.on().haul(0, 0, 10, 0, 0), x.on().haul(0, 0, 0, -1, 0),
            x.on().haul(0, 0, 0, 100, 0), x.on().haul(0, 3, 0, 0, 0), x.on().haul(0, 0, 0, 0, 1), x.on().haul(0, 0, 0, 0, 15),
            x.on().haul(0, 0, 0, 0, 9), x.on().haul(0, 0, 0, 0, -1)}, NONE, NONE, NONE, NONE, NONE, NONE, NONE, NONE, NONE);
        check.row("crew", new int[] {x.on().crew(0, 4, false), x.on().crew(0, 4, true), x.on().crew(0, 3, true), x.on().crew(0, 1, true),
            x.on().crew(0, 6, false), x.on().crew(0, 6, true), x.on().crew(0, 7, false), x.on().crew(0, 7, true), x.on().crew(0, 0, false),
            x.on().crew(0, 37, true), x.on().crew(1, 1, false)}, 2, 3, 1, 1, 3, 7, NONE, NONE, NONE, NONE, NONE);
        check.row("no pairs", new int[] {x.on().pairs(0, NONE), x.on().pairs(0, 0), x.on().pairs(0, -2)}, 0, NONE, NONE);
        Check.tell(y, 0, 0, "houses 6;has 1 0 2;needs 1 1 1;has 4 1 2;needs 4 0 1;has 5 1 1;needs 5 0 1;");
        check.row("pairs", new int[] {y.pairs(0, NONE), y.pairs(0, 0), y.pairs(0, 1), y.pairs(0, 2)}, 2, 10, 11, NONE);
    }

    private static void drawn() {
        // seed 0 draws 0, 54236, 42756, 54885: of two houses house 0, good 1; house 0, good 0
        OneBack y = new OneBack();
        Check.tell(y, 0, "houses 2;has 0 1 5;has 0 0 1;thief 2;needs 1 0 1;needs 1 1 1;watch 1 7;");
        Check.tell(y, 1, "");
        int[] got = new int[14];
        int[] whats = {1, 2, 3, 20, 30, 40, 50, 60, 61, 70, 71, 75, 0, 10};
        for (int i = 0; i < whats.length; i++) {
            got[i] = y.drawn(0, 0, 0, 1, whats[i]);
        }
        check.row("drawn", got, 1, 0, 0, 2, 1, 0, 7, 2, 0, 0, 4, 1, -1000, -1000);
        check.row("other drawn", new int[] {y.drawn(0, 0, 0, 0, 1), y.drawn(0, 0, 0, 31, 1), y.drawn(0, 1, 0, 1, 1),
            y.drawn(1, 0, 0, 1, 1), y.drawn(0, 0, 0, 1, 80), y.drawn(0, 0, 0, 1, 21), y.drawn(0, 0, 0, 1, 62),
            y.drawn(0, 0, 0, 1, 4), y.drawn(0, 0, 0, 1, -1), y.drawn(0, 0, 0, 30, 69)},
            -1000, -1000, -1000, -1000, -1000, -1000, -1000, -1000, -1000, -1000);
    }

    /** Towns, laws, nights, sights that are not there. */
    private static void wrong() {
        for (int k : new int[] {-2, -1, 2, Integer.MIN_VALUE, Integer.MAX_VALUE}) {
            check.row("no such town", new int[] {x.on().town(k, 0), x.on().house(k, 0, 0, 0), x.on().stop(k, 0, 0), x.on().state(k, 0, 0, 0, 0),
                x.on().goods(k, 0, 0, 0, NONE, 0, 0), x.on().aid(k, 0), x.on().carry(k), x.on().round(k, 0), x.on().round(k, NONE), x.on().meets(k, 0, 0),
                x.on().hands(k, 0, 0, 0, NONE), x.on().moved(k, 0, false), x.on().prize(k, 0, 0), x.on().rest(k, NONE), x.on().share(k, 0, true),
                x.on().even(k, 0), x.on().drawn(k, 0, 0, 1, 1), x.on().wealth(k, 0, 0, 0, 0), x.on().haul(k, 0, 0, 0, 0), x.on().crew(k, 1, true),
                x.on().pairs(k, NONE)}, -2, NONE, NONE, -1000, NONE, -2, NONE, NONE, NONE, NONE, NONE, NONE, -1000, NONE, NONE,
                NONE, -1000, -1000, NONE, NONE, NONE);
            check.row("no such law", new int[] {x.on().law(k, 0), x.on().stop(0, k, 0), x.on().state(0, k, 0, 0, 0), x.on().goods(0, k, 0, 0, NONE, 0, 0),
                x.on().hands(0, k, 0, 0, NONE), x.on().quit(k, 1, 1, 0, 60), x.on().drawn(0, k, 0, 1, 1), x.on().wealth(0, k, 0, 0, 0)},
                NONE, NONE, -1000, NONE, NONE, NONE, -1000, -1000);
            check.row("no such nights", new int[] {x.on().deed(k, NONE, 0), x.on().deed(k, 0, 0), x.on().stop(0, 0, k), x.on().state(0, 0, k, 0, 0),
                x.on().goods(0, 0, k, 0, NONE, 0, 0), x.on().hands(0, 0, k, 0, NONE), x.on().wealth(0, 0, k, 0, 0)},
                -2, -2, NONE, -1000, NONE, NONE, -1000);
            check.row("no such sight", new int[] {x.on().sight(k, 0), x.on().hands(0, 0, 0, k, NONE), x.on().moved(0, k, true)}, -2, NONE, NONE);
        }
    }
}
