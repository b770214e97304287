/** Terms 6 of a STATE and Terms 4 of hands, promises 27 and 18: on both sides of each bound. */
public final class WealthEdgesTest {
    private static final int NONE = OneBack.NONE;
    private static final Check check = new Check("WealthEdgesTest");

    public static void main(String[] args) {
        whats();
        settleNothing();
        settle();
        settleKin();
        settleCaught();
        can();
        wealth();
        rank();
        gap();
        unlike();
        robbed();
        waysOfNone();
        ways();
        waysOfMany();
        handsUpToStop();
        handsOfGifts();
        check.finish();
    }

    private static String takes(int thief, int house, int good, int n) {
        return ("take " + thief + " " + house + " " + good + ";").repeat(n);
    }

    private static String gives(int thief, int house, int good, int n) {
        return ("give " + thief + " " + house + " " + good + ";").repeat(n);
    }

    private static int last(String town, String law, String nights, int what) {
        OneBack x = Source.of(town, law, nights).make();
        int deeds = x.deed(0, NONE, 0);
        check.same("all deeds can be: " + nights, x.stop(0, 0, 0), deeds);
        return x.wealth(0, 0, 0, deeds, what);
    }

    /** Every what, of as many houses and thieves as there can be. */
    private static void whats() {
        for (int houses = 1; houses <= 6; houses++) {
            for (int thieves = 0; thieves <= 4; thieves++) {
                Source s = Source.of("houses " + houses + ";" + "thief 1;".repeat(thieves), "", "");
                for (int what = -30; what < 130; what++) {
                    int at = Math.floorMod(what, 10);
                    int due = switch (Math.floorDiv(what, 10)) {
                        case 0 -> at == 3 ? 1 : at < 5 ? 0 : -1000;
                        case 1 -> at < thieves ? 0 : -1000;
                        case 2 -> at < houses ? 0 : -1000;
                        case 3 -> at < houses ? at : -1000;
                        default -> -1000;
                    };
                    check.same("wealth " + what, s.on().wealth(0, 0, 0, 0, what), due);
                }
                for (int what : new int[] {Integer.MIN_VALUE, -1000, -2, -1, 1 << 30, Integer.MAX_VALUE}) {
                    check.same("wealth " + what, s.on().wealth(0, 0, 0, 0, what), -1000);
                }
            }
        }
    }

    private static void settleNothing() {
        String town = "has 0 0 9;has 0 1 9;needs 1 1 9;thief 9;thief 9;";
        check.same("nobody owes or is ahead", last(town, "", "", 0), 0);
        check.same("no thieves", last("", "", "night;", 0), 0);
        check.same("one alone owes", last(town, "", takes(0, 0, 0, 8), 0), 0);
        check.same("one alone is ahead", last(town, "", takes(0, 0, 1, 8) + gives(0, 1, 1, 8), 0), 0);
        check.same("two owe", last(town, "", takes(0, 0, 0, 8) + takes(1, 0, 1, 8), 0), 0);
    }

    /** The lesser of what is owed and of what others are ahead by, if nobody is kin. */
    private static void settle() {
        String town = "has 0 0 9;has 0 1 9;needs 1 1 9;thief 9;thief 9;";
        for (int owes = 0; owes <= 4; owes++) {
            for (int gifts = 0; gifts <= 9; gifts++) {
                String nights = takes(0, 0, 0, 2 * owes) + takes(1, 0, 1, gifts) + gives(1, 1, 1, gifts);
                check.same("settle " + owes + ", " + gifts, last(town, "", nights, 0), Math.min(owes, gifts - gifts / 2));
            }
        }
        String four = "has 0 0 9;has 0 1 9;has 2 0 9;needs 1 0 9;needs 1 1 9;thief 9;thief 9;thief 9;thief 9;";
        String two = takes(0, 0, 0, 4) + takes(1, 0, 1, 6) + takes(2, 2, 0, 3) + takes(3, 0, 0, 2) + gives(2, 1, 0, 3) + gives(3, 1, 0, 2);
        // 0 owes 2, 1 owes 3, 2 is ahead by 2, 3 by 1
        check.same("two and two", last(four, "", two, 0), 3);
        check.same("of sets one behind the other", last(four, "", two + "set 0 2 1;", 0), 2);
        check.same("more than a set can be of", last("has 0 0 9;has 0 1 9;has 0 2 9;needs 1 2 9;thief 9;thief 9;", "double 0;",
            takes(0, 0, 0, 9) + takes(1, 0, 2, 8) + gives(1, 1, 2, 8) + "night;" + takes(0, 0, 1, 9), 0), 9);
    }

    /** A son does not set off with his father: others may. */
    private static void settleKin() {
        String four = "has 0 0 9;has 0 1 9;has 2 0 9;needs 1 0 9;needs 1 1 9;thief 9;thief 9;thief 9;thief 9;";
        String two = takes(0, 0, 0, 4) + takes(1, 0, 1, 6) + takes(2, 2, 0, 3) + takes(3, 0, 0, 2) + gives(2, 1, 0, 3) + gives(3, 1, 0, 2);
        check.same("0 with 3 alone, 1 with all", last(four + "son 0 2;", "", two, 0), 3);
        check.same("1 with 3 alone", last(four + "son 1 2;", "", two, 0), 3);
        check.same("0 and 1 with 3 alone", last(four + "son 0 2;son 1 2;", "", two, 0), 1);
        check.same("0 and 1 with 2 alone", last(four + "son 3 0;son 1 3;", "", two, 0), 2);
        check.same("0 with none, 1 with 3", last(four + "son 0 2;son 3 0;son 2 1;", "", two, 0), 1);
        check.same("nobody with anybody", last(four + "son 0 2;son 3 0;son 2 1;son 1 3;", "", two, 0), 0);
        check.same("kin of those who owe alone", last(four + "son 0 1;son 2 3;", "", two, 0), 3);
    }

    /** "THIEVES who are not CAUGHT" */
    private static void settleCaught() {
        String town = "has 0 0 9;has 0 1 9;needs 1 0 9;needs 1 1 9;watch 1 5;thief 9;thief 9;thief 9;";
        String ahead = takes(0, 0, 0, 4) + takes(1, 0, 1, 2) + gives(1, 1, 1, 2) + "night;";
        check.same("not caught", last(town, "catch 11;", ahead, 0), 1);
        check.same("caught, who is ahead", last(town, "catch 10;", ahead, 0), 0);
        String owes = takes(0, 0, 0, 6) + gives(0, 1, 0, 1) + "night;" + takes(2, 0, 1, 2) + gives(2, 1, 1, 2);
        check.same("not caught", last(town, "catch 6;", owes, 0), 1);
        check.same("caught, who owes", last(town, "catch 5;", owes, 0), 0);
    }

    /** "CAN of a THIEF: the most gifts that he may give now, one behind the other (CAUGHT: 0)." */
    private static void can() {
        for (int bag = 0; bag <= 9; bag++) {
            for (int lacks = 0; lacks <= 9; lacks++) {
                String town = "has 0 0 9;needs 1 0 " + lacks + ";thief 9;";
                check.same("of " + bag + " for " + lacks, last(town, "", takes(0, 0, 0, bag), 10), Math.min(bag, lacks));
            }
        }
        String town = "has 0 0 9;has 0 1 9;has 1 0 1;needs 1 0 2;needs 2 0 1;needs 0 0 9;needs 2 1 3;thief 9;thief 9;";
        check.same("of several houses", last(town, "", takes(0, 0, 0, 4), 10), 2);
        check.same("not where he took it", last(town, "", takes(0, 0, 0, 3) + "take 0 1 0;", 10), 1);
        check.same("where another one took it", last(town, "", takes(0, 0, 0, 4) + "take 1 1 0;", 10), 3);
        check.same("of several goods", last(town, "", takes(0, 0, 0, 4) + takes(0, 0, 1, 5), 10), 5);
        check.same("of his own bag", last(town, "", takes(0, 0, 0, 4), 11), 0);
        check.same("beyond what he owes", last("has 0 0 9;needs 1 0 9;thief 9;", "rate 5;", takes(0, 0, 0, 9), 10), 9);
        String watched = "has 0 0 9;needs 1 0 9;watch 1 5;thief 9;thief 9;";
        String nights = takes(0, 0, 0, 3) + "give 0 1 0;night;take 1 0 0;";
        check.same("not caught", last(watched, "catch 6;", nights, 10), 2);
        check.same("caught", last(watched, "catch 5;", nights, 10), 0);
        check.same("another one is caught", last(watched, "catch 5;", nights, 11), 1);
    }

    /** "WORTH of all that it HAS then" */
    private static void wealth() {
        String town = "houses 6;has 5 0 9;has 5 1 9;has 5 2 9;has 5 3 9;has 5 4 9;worth 0 9;worth 1 9;worth 2 9;worth 3 9;worth 4 9;";
        check.same("the most", last(town, "", "", 25), 405);
        check.same("none", last(town, "", "", 24), 0);
        check.same("of no worth", last("has 0 0 9;worth 0 0;", "", "", 20), 0);
        Source s = Source.of("has 0 0 3;has 0 1 2;worth 0 4;worth 1 5;needs 1 0 2;thief 9;", "", "take 0 0 0;give 0 1 0;take 0 0 1;");
        int[][] due = {{22, 0}, {18, 0}, {18, 4}, {13, 4}};
        for (int n = 0; n < 4; n++) {
            check.row("wealth behind " + n, new int[] {s.on().wealth(0, 0, 0, n, 20), s.on().wealth(0, 0, 0, n, 21)}, due[n]);
        }
    }

    private static int[] ranks(String town) {
        Source s = Source.of(town, "", "");
        int[] all = new int[6];
        for (int k = 0; k < 6; k++) {
            all[k] = s.on().wealth(0, 0, 0, 0, 30 + k);
        }
        return all;
    }

    /** "the greatest first, of like ones the lesser number." */
    private static void rank() {
        check.row("all alike", ranks("houses 6;"), 0, 1, 2, 3, 4, 5);
        check.row("going up", ranks("houses 6;has 0 0 1;has 1 0 2;has 2 0 3;has 3 0 4;has 4 0 5;has 5 0 6;"), 5, 4, 3, 2, 1, 0);
        check.row("some alike", ranks("houses 6;has 1 0 2;has 3 0 2;has 5 0 9;has 4 0 1;"), 5, 1, 3, 4, 0, 2);
        check.row("one house", ranks("houses 1;"), 0, -1000, -1000, -1000, -1000, -1000);
        check.row("three houses", ranks("has 2 0 1;"), 2, 0, 1, -1000, -1000, -1000);
    }

    private static void gap() {
        check.same("one house", last("houses 1;has 0 0 9;", "", "", 1), 0);
        check.same("all alike", last("has 0 0 3;has 1 0 3;has 2 0 3;", "", "", 1), 0);
        check.same("one less", last("has 0 0 3;has 1 0 2;has 2 0 3;", "", "", 1), 1);
        check.same("the most", last("houses 2;has 1 0 9;has 1 1 9;has 1 2 9;has 1 3 9;has 1 4 9;worth 0 9;worth 1 9;worth 2 9;"
            + "worth 3 9;worth 4 9;", "", "", 1), 405);
        check.same("then", last("houses 2;has 0 0 5;has 1 0 1;thief 9;", "", takes(0, 0, 0, 5), 1), 1);
    }

    private static void unlikeOf(String name, String town, String nights, int n, int d) {
        check.row(name, new int[] {last(town, "", nights, 2), last(town, "", nights, 3)}, n, d);
    }

    /** "a fraction in least terms (0 by 1, if there is none)" */
    private static void unlike() {
        unlikeOf("no wealth", "houses 6;", "", 0, 1);
        unlikeOf("no worth", "has 0 0 9;worth 0 0;", "", 0, 1);
        unlikeOf("all alike", "has 0 0 2;has 1 0 2;has 2 0 2;", "", 0, 1);
        unlikeOf("one house", "houses 1;has 0 0 9;", "", 0, 1);
        unlikeOf("one has all", "has 1 0 5;", "", 2, 3);
        unlikeOf("one of six has all", "houses 6;has 1 0 5;", "", 5, 6);
        unlikeOf("of two", "houses 2;has 0 0 1;has 1 0 3;", "", 1, 4);
        unlikeOf("each couple once", "has 0 0 1;has 1 0 2;has 2 0 4;", "", 2, 7);
        unlikeOf("all taken", "has 0 0 1;thief 1;", "take 0 0 0;", 0, 1);
    }

    /** "HOUSES (bits) from which two THIEVES or more have taken." */
    private static void robbed() {
        String town = "houses 6;has 0 0 9;has 0 1 9;has 5 0 9;thief 9;thief 9;thief 9;thief 9;";
        check.same("nobody", last(town, "", "", 4), 0);
        check.same("one alone, twice", last(town, "", takes(0, 0, 0, 2), 4), 0);
        check.same("one alone, two goods", last(town, "", takes(0, 0, 0, 1) + takes(0, 0, 1, 1), 4), 0);
        check.same("two, two houses", last(town, "", takes(0, 0, 0, 1) + takes(1, 5, 0, 1), 4), 0);
        check.same("two", last(town, "", takes(0, 0, 0, 1) + takes(1, 0, 1, 1), 4), 1);
        check.same("all", last(town, "", "take 0 0 0;take 1 0 0;take 2 0 0;take 3 0 0;", 4), 1);
        check.same("two houses", last(town, "", "take 3 0 0;night;take 2 0 0;take 2 5 0;take 0 5 0;", 4), 33);
    }

    private static int[] hands(String nights, String sight) {
        OneBack x = Source.of("houses 3;has 0 0 9;has 0 1 9;needs 1 0 9;needs 2 0 9;needs 1 1 9;thief 9;thief 9;thief 9;thief 9;",
            "", nights, sight).make();
        int gifts = x.sight(0, 0);
        int[] all = new int[1 + gifts];
        for (int k = -1; k < gifts; k++) {
            all[1 + k] = x.hands(0, 0, 0, 0, k);
        }
        for (int k : new int[] {gifts, gifts + 1, 8, -2, Integer.MIN_VALUE, Integer.MAX_VALUE}) {
            check.same("no gift " + k, x.hands(0, 0, 0, 0, k), NONE);
        }
        return all;
    }

    private static void waysOfNone() {
        check.row("no gifts, nothing given", hands("", ""), 1);
        check.row("no gifts, some given", hands("take 0 0 0;give 0 1 0;", ""), 1);
        check.row("a gift, nothing given", hands("", "given 1 0;"), 0, 0);
        check.row("a gift at a house that is not there", hands("take 0 0 0;give 0 1 0;", "given 5 0;"), 0, 0);
        check.row("of another good", hands("take 0 0 0;give 0 1 0;", "given 1 1;"), 0, 0);
        check.row("at another house", hands("take 0 0 0;give 0 1 0;", "given 2 0;"), 0, 0);
        // nobody may be the hand of a gift, if another one has none
        check.row("one of two has no hand", hands("take 0 0 0;give 0 1 0;", "given 1 0;given 2 0;"), 0, 0, 0);
    }

    /** "so that no THIEF has more of GIFTS of one GOOD at one HOUSE than he gave there" */
    private static void ways() {
        check.row("one of one", hands("take 0 0 0;give 0 1 0;", "given 1 0;"), 1, 1);
        check.row("two of one", hands("take 0 0 0;give 0 1 0;", "given 1 0;given 1 0;"), 0, 0, 0);
        check.row("two of one's two", hands("take 0 0 0;take 0 0 0;give 0 1 0;give 0 1 0;", "given 1 0;given 1 0;"), 1, 1, 1);
        check.row("one of two thieves", hands("take 3 0 0;take 1 0 0;give 3 1 0;give 1 1 0;", "given 1 0;"), 2, 10);
        check.row("two of two thieves", hands("take 3 0 0;take 1 0 0;give 3 1 0;give 1 1 0;", "given 1 0;given 1 0;"), 2, 10, 10);
        check.row("three of two thieves", hands("take 3 0 0;take 1 0 0;give 3 1 0;give 1 1 0;", "given 1 0;given 1 0;given 1 0;"),
            0, 0, 0, 0);
        check.row("of two places", hands("take 0 0 0;take 0 0 0;take 1 0 0;give 0 1 0;give 0 2 0;give 1 1 0;", "given 2 0;given 1 0;"),
            2, 1, 3);
        check.row("of two goods", hands("take 0 0 0;take 0 0 1;take 1 0 1;give 0 1 0;give 0 1 1;give 1 1 1;", "given 1 1;given 1 0;"),
            2, 3, 1);
    }

    /** As many gifts as may be: who gave two of eight, each of four. */
    private static void waysOfMany() {
        StringBuilder two = new StringBuilder();
        for (int t = 0; t < 4; t++) {
            two.append(takes(t, 0, 0, 2)).append(gives(t, 1, 0, 2));
        }
        int[] got = hands(two.toString(), "given 1 0;".repeat(8));
        check.same("eight of four by two", got[0], 2520);
        check.same("the last may be anybody's", got[8], 15);
        StringBuilder all = new StringBuilder();
        for (int t = 0; t < 4; t++) {
            all.append(takes(t, 0, 0, 2)).append(gives(t, 1, 0, 2)).append(takes(t, 0, 1, 2)).append(gives(t, 1, 1, 2));
        }
        check.same("two and two", hands(all.toString(), "given 1 0;given 1 1;given 1 0;given 1 1;")[0], 256);
        check.same("four and four", hands(all.toString(), "given 1 0;given 1 1;".repeat(4))[0], 204 * 204);
        check.same("six and none", hands(all.toString(), "given 1 0;".repeat(6) + "given 2 1;")[0], 0);
        String one = takes(0, 0, 0, 9) + gives(0, 1, 0, 8);
        check.row("eight of one", hands(one, "given 1 0;".repeat(8)), 1, 1, 1, 1, 1, 1, 1, 1, 1);
        check.row("eight of one who gave seven", hands(takes(0, 0, 0, 9) + gives(0, 1, 0, 7), "given 1 0;".repeat(8)),
            0, 0, 0, 0, 0, 0, 0, 0, 0);
    }

    /** "By NIGHTS of a TOWN, up to STOP" */
    private static void handsUpToStop() {
        check.row("a gift ahead of stop", hands("take 0 0 0;take 0 0 0;give 0 1 0;take 0 2 0;give 0 1 0;", "given 1 0;"), 1, 1);
        check.row("a gift behind it", hands("take 0 0 0;take 0 0 0;give 0 1 0;take 0 2 0;give 0 1 0;", "given 1 0;given 1 0;"),
            0, 0, 0);
        check.row("a gift that can't be", hands("give 0 1 0;", "given 1 0;"), 0, 0);
    }

    /** Of gifts 0 to as many as there are. */
    private static void handsOfGifts() {
        for (int n = 0; n <= 8; n++) {
            int[] got = hands(takes(2, 0, 0, 9) + gives(2, 2, 0, 9), "given 2 0;".repeat(n));
            check.same("as many", got.length, n + 1);
            for (int k = 0; k < got.length; k++) {
                check.same("gift " + (k - 1) + " of " + n, got[k], k == 0 ? 1 : 4);
            }
        }
    }
}
