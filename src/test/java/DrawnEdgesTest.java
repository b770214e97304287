import java.math.BigInteger;

/** Terms 5 of nights by a SEED, promise 26: the seed's wrap-around, and both sides of each bound. */
public final class DrawnEdgesTest {
    private static final int NONE = OneBack.NONE;
    private static final int[] SEEDS = {0, 1, -1, 2, -2, 12345, -12345, 1 << 15, 1 << 16, -(1 << 16), 1 << 30, 1 << 31, 65535,
        1103515245, -1103515245, Integer.MAX_VALUE, Integer.MAX_VALUE - 1, Integer.MIN_VALUE, Integer.MIN_VALUE + 1, 1234567890};
    private static final BigInteger ALL = BigInteger.ONE.shiftLeft(32);
    private static final Check check = new Check("DrawnEdgesTest");

    public static void main(String[] args) {
        seeds();
        bySeedsByHand();
        nights();
        whats();
        takesIfHeMay();
        gifts();
        givesNoMore();
        whomHeMayGive();
        doubleNights();
        whoIsCaught();
        byNumbers();
        check.finish();
    }

    /** Numbers drawn below those told, one behind the other. */
    private static int[] draws(int seed, int... below) {
        BigInteger x = BigInteger.valueOf(seed);
        int[] all = new int[below.length];
        for (int i = 0; i < below.length; i++) {
            x = x.multiply(BigInteger.valueOf(1103515245)).add(BigInteger.valueOf(12345)).mod(ALL);
            all[i] = x.shiftRight(16).mod(BigInteger.valueOf(below[i])).intValue();
        }
        return all;
    }

    /** Houses each of which has nine of each good. */
    private static String rich(int houses) {
        StringBuilder s = new StringBuilder("houses " + houses + ";");
        for (int cell = 0; cell < 5 * houses; cell++) {
            s.append("has " + cell / 5 + " " + cell % 5 + " 9;");
        }
        return s.toString();
    }

    /** "x becomes x * 1103515245 + 12345 (of 32 bits), it is x shifted right by 16 without sign, remainder by n" */
    private static void seeds() {
        for (int houses = 1; houses <= 6; houses++) {
            Source s = Source.of(rich(houses) + "thief 1;", "");
            for (int k = 0; k < SEEDS.length + 60; k++) {
                int seed = k < SEEDS.length ? SEEDS[k] : SEEDS[k % SEEDS.length] * (k + 77);
                int[] drawn = draws(seed, houses, 5, houses, 5, houses, 5);
                int[] left = new int[30];
                for (int night = 1; night <= 3; night++) {
                    left[5 * drawn[2 * night - 2] + drawn[2 * night - 1]]++;
                    for (int cell = 0; cell < 5 * houses; cell++) {
                        check.same("seed " + seed + ", night " + night + ", " + cell, s.on().drawn(0, 0, seed, night, 70 + cell),
                            9 - left[cell]);
                    }
                }
            }
        }
    }

    /** Worked without the rule above: of seed 0 draws are 0, 54236, 42756, 54885; of seed -1 they are 48697, .. */
    private static void bySeedsByHand() {
        Source s = Source.of(rich(6) + "thief 2;", "");
        // houses 0 and 0, goods 1 and 0
        check.row("seed 0", new int[] {s.on().drawn(0, 0, 0, 1, 71), s.on().drawn(0, 0, 0, 1, 70), s.on().drawn(0, 0, 0, 1, 60)}, 8, 8, 2);
        // -1103515245 + 12345 is -1103502900, of 32 bits 3191464396: by 65536 it is 48697, house 1
        check.same("seed -1", s.on().drawn(0, 0, -1, 1, 61) >= 1, true);
    }

    /** "so many nights, 1 to 30" */
    private static void nights() {
        Source s = Source.of(rich(6) + "thief 1;", "");
        for (int n = -3; n < 40; n++) {
            boolean is = n >= 1 && n <= 30;
            check.row("nights " + n, new int[] {s.on().drawn(0, 0, 99, n, 20), s.on().drawn(0, 0, 99, n, 40)},
                is ? n : -1000, is ? n / 2 : -1000);
        }
        for (int n : new int[] {Integer.MIN_VALUE, -1000, 1 << 30, Integer.MAX_VALUE}) {
            check.same("nights " + n, s.on().drawn(0, 0, 99, n, 20), -1000);
        }
    }

    /** "what as state() 1 to 60 + h (but QUEUE), or 70 + 5 * h + g": of as many houses and thieves as there can be. */
    private static void whats() {
        for (int houses = 1; houses <= 6; houses++) {
            for (int thieves = 0; thieves <= 4; thieves++) {
                Source s = Source.of("houses " + houses + ";" + "thief 1;".repeat(thieves), "");
                for (int what = -30; what < 150; what++) {
                    int at = Math.floorMod(what, 10);
                    int due = switch (Math.floorDiv(what, 10)) {
                        case 0 -> what == 1 || what == 2 ? 0 : what == 3 ? thieves > 0 ? 0 : NONE : -1000;
                        case 2, 3, 4, 5 -> at < thieves ? 0 : -1000;
                        case 6 -> at < houses ? 0 : -1000;
                        case 7, 8, 9 -> what < 70 + 5 * houses ? 0 : -1000;
                        default -> -1000;
                    };
                    check.same("drawn " + what, s.on().drawn(0, 0, 5, 2, what), due);
                }
                for (int what : new int[] {Integer.MIN_VALUE, -1000, 1 << 30, Integer.MAX_VALUE}) {
                    check.same("drawn " + what, s.on().drawn(0, 0, 5, 2, what), -1000);
                }
            }
        }
    }

    /** "LIMIT times: a HOUSE below all, a GOOD below 5: he takes it, if he may": what he may not take is drawn all the same. */
    private static void takesIfHeMay() {
        for (int limit = 1; limit <= 9; limit++) {
            Source s = Source.of("houses 3;has 1 2 9;has 1 3 1;thief " + limit + ";", "");
            int[] below = new int[2 * limit];
            for (int i = 0; i < limit; i++) {
                below[2 * i] = 3;
                below[2 * i + 1] = 5;
            }
            for (int seed : SEEDS) {
                int[] drawn = draws(seed, below);
                int two = 0;
                int three = 0;
                for (int i = 0; i < limit; i++) {
                    two += drawn[2 * i] == 1 && drawn[2 * i + 1] == 2 ? 1 : 0;
                    three += drawn[2 * i] == 1 && drawn[2 * i + 1] == 3 ? 1 : 0;
                }
                three = Math.min(three, 1);
                check.row("limit " + limit + ", seed " + seed, new int[] {s.on().drawn(0, 0, seed, 1, 20), s.on().drawn(0, 0, seed, 1, 77),
                    s.on().drawn(0, 0, seed, 1, 78), s.on().drawn(0, 0, seed, 1, 61), s.on().drawn(0, 0, seed, 1, 60)},
                    two + three, 9 - two, 1 - three, two + three, 0);
            }
        }
        check.same("no thieves", Source.of(rich(3), "").on().drawn(0, 0, 1, 30, 60), 0);
    }

    /** A town of two houses: the first has all, the second needs all; what is given in one night by nine drawings. */
    private static void gifts() {
        StringBuilder town = new StringBuilder("houses 2;thief 9;watch 1 1;");
        for (int g = 0; g < 5; g++) {
            town.append("has 0 " + g + " 9;needs 1 " + g + " 9;");
        }
        for (int rate = 2; rate <= 5; rate++) {
            for (int twice = 0; twice < 2; twice++) {
                Source s = Source.of(town.toString(), "rate " + rate + ";" + "double 0;".repeat(twice));
                for (int seed = -60; seed < 60; seed++) {
                    int[] bag = bagOfNine(seed);
                    int taken = bag[0] + bag[1] + bag[2] + bag[3] + bag[4];
                    int owes = taken / rate;
                    int gifts = (owes + twice) / (1 + twice);
                    check.row("rate " + rate + ", seed " + seed, new int[] {s.on().drawn(0, 0, seed, 1, 20),
                        s.on().drawn(0, 0, seed, 1, 30), s.on().drawn(0, 0, seed, 1, 40), s.on().drawn(0, 0, seed, 1, 50)},
                        taken, gifts * (1 + twice), owes - gifts * (1 + twice), gifts);
                    for (int g = 0; g < 5; g++) {
                        int given = Math.min(bag[g], gifts);
                        gifts -= given;
                        check.same("gifts of good " + g + ", seed " + seed, s.on().drawn(0, 0, seed, 1, 75 + g), given);
                    }
                }
            }
        }
    }

    private static int[] bagOfNine(int seed) {
        int[] below = new int[18];
        for (int i = 0; i < 18; i++) {
            below[i] = i % 2 == 0 ? 2 : 5;
        }
        int[] drawn = draws(seed, below);
        int[] bag = new int[5];
        for (int i = 0; i < 9; i++) {
            bag[drawn[2 * i + 1]] += drawn[2 * i] == 0 ? 1 : 0;
        }
        return bag;
    }

    /** "if he may none, no more": nobody lacks, or he took it there, or there is not enough need. */
    private static void givesNoMore() {
        Source s = Source.of(rich(2) + "thief 9;", "");
        Source few = Source.of("houses 2;has 0 0 9;has 0 1 9;has 0 2 9;has 0 3 9;has 0 4 9;needs 1 3 1;thief 9;", "");
        for (int seed = -40; seed < 40; seed++) {
            check.row("nobody lacks", new int[] {s.on().drawn(0, 0, seed, 1, 20), s.on().drawn(0, 0, seed, 1, 30),
                s.on().drawn(0, 0, seed, 1, 40)}, 9, 0, 4);
            int[] bag = bagOfNine(seed);
            int taken = bag[0] + bag[1] + bag[2] + bag[3] + bag[4];
            int given = bag[3] > 0 && taken > 1 ? 1 : 0;
            check.row("one is lacked, seed " + seed, new int[] {few.on().drawn(0, 0, seed, 1, 30), few.on().drawn(0, 0, seed, 1, 40),
                few.on().drawn(0, 0, seed, 1, 78)}, given, taken / 2 - given, given);
        }
        // one house that needs what it has lost: from it he has taken it
        Source own = Source.of("houses 1;has 0 0 9;needs 0 0 9;has 0 1 9;needs 0 1 9;thief 9;", "");
        check.row("his own takings", new int[] {own.on().drawn(0, 0, 3, 5, 30), own.on().drawn(0, 0, 3, 5, 1) > 0 ? 1 : 0}, 0, 1);
    }

    /** "the least GOOD of his BAG, to the least HOUSE, that he may give": a lesser house that he took it from is passed by. */
    private static void whomHeMayGive() {
        Source s = Source.of("houses 4;has 0 0 9;has 0 1 9;has 0 2 9;has 0 3 9;has 0 4 9;needs 0 0 9;needs 0 1 9;needs 0 2 9;needs 0 3 9;"
            + "needs 0 4 9;needs 1 4 9;needs 2 4 9;needs 3 0 9;thief 9;", "");
        int seen = 0;
        for (int seed = 0; seed < 80; seed++) {
            int[] below = new int[18];
            for (int i = 0; i < 18; i++) {
                below[i] = i % 2 == 0 ? 4 : 5;
            }
            int[] drawn = draws(seed, below);
            int[] bag = new int[5];
            int taken = 0;
            for (int i = 0; i < 9; i++) {
                bag[drawn[2 * i + 1]] += drawn[2 * i] == 0 ? 1 : 0;
                taken += drawn[2 * i] == 0 ? 1 : 0;
            }
            int first = Math.min(taken / 2, bag[0]);
            int then = Math.min(taken / 2 - first, bag[4]);
            seen += then > 0 ? 1 : 0;
            check.row("seed " + seed, new int[] {s.on().drawn(0, 0, seed, 1, 70 + 15), s.on().drawn(0, 0, seed, 1, 70 + 9),
                s.on().drawn(0, 0, seed, 1, 70 + 14), s.on().drawn(0, 0, seed, 1, 30)}, first, then, 0, first + then);
        }
        check.same("some of each were seen", seen > 5, true);
    }

    /** DOUBLE nights of 0 .. 19: a night that is told counts twice in drawn nights, too. */
    private static void doubleNights() {
        String town = "houses 2;thief 2;has 0 0 9;has 0 1 9;has 0 2 9;has 0 3 9;has 0 4 9;needs 1 0 9;needs 1 1 9;needs 1 2 9;needs 1 3 9;needs 1 4 9;";
        StringBuilder all = new StringBuilder();
        for (int night = 0; night < 20; night++) {
            all.append("double " + night + ";");
        }
        for (String law : new String[] {"", "double 0;", "double 1;", "double 19;", all.toString(), "catch 1;"}) {
            Source s = Source.of(town, law);
            for (int nights = 1; nights <= 30; nights++) {
                Plain.Run run = Plain.drawn(Plain.place(town), Plain.rule(law), 4711, nights);
                for (int what : new int[] {20, 30, 40, 60, 61}) {
                    check.same("'" + law + "' " + nights + " " + what, s.on().drawn(0, 0, 4711, nights, what), run.view(what));
                }
            }
        }
    }

    /** "for each THIEF who is not CAUGHT": one who is draws no more, and the next one draws in his stead. */
    private static void whoIsCaught() {
        String town = "houses 2;thief 4;thief 1;has 0 0 9;has 0 1 9;has 0 2 9;has 0 3 9;has 0 4 9;needs 1 0 9;needs 1 1 9;needs 1 2 9;"
            + "needs 1 3 9;needs 1 4 9;watch 1 3;";
        int times = 0;
        for (int seed = 0; seed < 60; seed++) {
            int[] first = draws(seed, 2, 5, 2, 5, 2, 5, 2, 5, 2, 5, 2, 5);
            int taken = 0;
            for (int i = 0; i < 8; i += 2) {
                taken += first[i] == 0 ? 1 : 0;
            }
            int gifts = taken / 2;
            for (int limit : new int[] {3, 4, 6, 7}) {
                Source s = Source.of(town, "catch " + limit + ";");
                boolean caught = 3 * gifts >= limit;
                times += caught ? 1 : 0;
                check.row("seed " + seed + ", catch " + limit, new int[] {s.on().drawn(0, 0, seed, 1, 2), s.on().drawn(0, 0, seed, 1, 50)},
                    caught ? 1 : 0, 3 * gifts);
                if (caught) {
                    // in the second night the next draws are of thief 1; house 1 may have what was given
                    int before = s.on().drawn(0, 0, seed, 1, 70 + 5 * first[10] + first[11]);
                    int behind = s.on().drawn(0, 0, seed, 2, 70 + 5 * first[10] + first[11]);
                    check.same("the next one draws", before > 0 ? before - behind >= 0 : behind == 0, true);
                    check.same("he takes no more", s.on().drawn(0, 0, seed, 30, 20), taken);
                    check.same("thief 1 takes it", s.on().drawn(0, 0, seed, 2, 21) - s.on().drawn(0, 0, seed, 1, 21), before > 0 ? 1 : 0);
                }
            }
        }
        check.same("some were caught", times > 20, true);
    }

    /** "by numbers": what the first draws comes first, and what he has taken the next one does not find. */
    private static void byNumbers() {
        Source s = Source.of("houses 2;thief 1;thief 1;thief 1;thief 1;has 0 0 1;has 0 1 1;has 0 2 1;has 0 3 1;has 0 4 1;", "");
        for (int seed = 0; seed < 60; seed++) {
            int[] drawn = draws(seed, 2, 5, 2, 5, 2, 5, 2, 5);
            boolean[] gone = new boolean[5];
            for (int t = 0; t < 4; t++) {
                boolean takes = drawn[2 * t] == 0 && !gone[drawn[2 * t + 1]];
                gone[drawn[2 * t + 1]] |= takes;
                check.same("thief " + t + ", seed " + seed, s.on().drawn(0, 0, seed, 1, 20 + t), takes ? 1 : 0);
            }
        }
    }
}
