import java.util.List;
import java.util.Random;

/** Many towns, laws, nights and sights by chance, all answers measured by Plain. */
public final class PlainTest {
    private static final int NONE = OneBack.NONE;
    private static final Check check = new Check("PlainTest");
    private static final Random random = new Random(20261118);

    /** Which of two of each sort is asked of. */
    private static int atTown = 0;
    private static int atLaw = 0;
    private static int atNights = 0;
    private static int atSight = 0;

    public static void main(String[] args) {
        for (int k = 0; k < 400; k++) {
            String[][] texts = new String[4][2];
            for (int i = 0; i < 2; i++) {
                texts[0][i] = town(k + 5 * i);
                texts[1][i] = law();
                texts[2][i] = nights(texts[0][i], texts[1][i]);
                texts[3][i] = sight(texts[0][i], texts[1][i], texts[2][i]);
            }
            Source x = new Source();
            for (int sort = 0; sort < 4; sort++) {
                x.tell(sort, texts[sort][0]).tell(sort, texts[sort][1]);
            }
            ask(x, texts, 0);
            ask(x, texts, 15);
            ask(x, texts, below(16));
        }
        check.finish();
    }

    /** Bits: of which sort the second one is asked of. */
    private static void ask(Source x, String[][] texts, int second) {
        atTown = second & 1;
        atLaw = second >> 1 & 1;
        atNights = second >> 2 & 1;
        atSight = second >> 3 & 1;
        String town = texts[0][atTown];
        String law = texts[1][atLaw];
        String nights = texts[2][atNights];
        String sight = texts[3][atSight];
        Plain.Place p = Plain.place(town);
        Plain.Rule r = Plain.rule(law);
        try {
            told(x, p);
            states(x, p, r, nights);
            sights(x, p, r, nights, sight);
            plans(x, p, r);
            game(x, p);
            drawn(x, p, r);
        } catch (RuntimeException e) {
            throw new RuntimeException(town + "\n" + law + "\n" + nights + "\n" + sight, e);
        }
    }

    private static int below(int n) {
        return random.nextInt(n);
    }

    private static String town(int k) {
        boolean busy = k % 2 == 0;
        int houses = busy ? 3 + below(4) : 1 + below(6);
        int thieves = busy ? 3 + below(2) : below(5);
        int most = k % 4 < 2 ? 9 : 3;
        StringBuilder s = new StringBuilder("houses " + houses + ";");
        int kinds = 1 + below(busy ? 2 : 5);
        for (int i = busy ? 16 : below(24); i > 0; i--) {
            // in a busy town the first houses have much and the others need it
            int h = below(houses);
            String word = busy ? h < 2 ? "has " : "needs " : below(2) == 0 ? "has " : "needs ";
            s.append(word + h + " " + below(kinds) + " " + below(1 + (busy && h < 2 ? 9 : most)) + ";");
        }
        for (int i = below(5); i > 0; i--) {
            s.append("watch " + below(houses) + " " + below(k % 3 == 0 ? 10 : 3) + ";");
        }
        for (int i = below(7); i > 0; i--) {
            s.append("passes " + below(houses) + " " + below(houses) + ";");
        }
        for (int i = below(4); i > 0; i--) {
            s.append("weight " + below(5) + " " + (1 + below(9)) + ";worth " + below(5) + " " + below(10) + ";");
        }
        for (int i = 0; i < thieves; i++) {
            s.append("thief " + (1 + below(most)) + ";");
        }
        for (int i = below(3); i > 0 && thieves > 1; i--) {
            int a = below(thieves);
            s.append("son " + a + " " + (a + 1 + below(thieves - 1)) % thieves + ";");
        }
        return s.toString();
    }

    private static String law() {
        StringBuilder s = new StringBuilder();
        if (below(2) == 0) {
            s.append("rate " + (2 + below(4)) + ";");
        }
        if (below(2) == 0) {
            s.append("catch " + (1 + below(below(2) == 0 ? 99 : 9)) + ";");
        }
        for (int i = below(4); i > 0; i--) {
            s.append("double " + below(below(2) == 0 ? 20 : 3) + ";");
        }
        return s.toString();
    }

    /** Deeds that may be, most of them, so that runs are long. */
    private static String nights(String town, String law) {
        Plain.Place p = Plain.place(town);
        Plain.Run run = new Plain.Run(p, Plain.rule(law));
        StringBuilder s = new StringBuilder();
        int deeds = 20 + below(21);
        boolean wild = below(3) == 0;
        for (int tries = 0; deeds > 0 && tries < 600; tries++) {
            int sort = below(60);
            int a = below(4);
            String line = sort < 18 ? "take " + a + " " + below(6) + " " + below(5) + ";"
                : sort < 44 ? "give " + a + " " + below(6) + " " + below(below(2) == 0 ? 2 : 5) + ";"
                : sort < 59 ? "set " + a + " " + (a + 1 + below(3)) % 4 + " " + (1 + below(2)) + ";" : "night;";
            if (run.act(Plain.lines(line).get(0)) || wild && below(400) == 0) {
                s.append(line);
                deeds--;
            }
        }
        if (deeds > 0) {
            s.append("take 3 5 4;");
        }
        return s.toString();
    }

    private static String sight(String town, String law, String nights) {
        Plain.Place p = Plain.place(town);
        Plain.Rule r = Plain.rule(law);
        Plain.Run run = Plain.run(p, r, nights, Plain.stop(p, r, nights));
        StringBuilder s = new StringBuilder();
        for (int i = Math.min(below(9), 1 + run.gives.size()); i > 0; i--) {
            if (run.gives.isEmpty() || below(40) == 0) {
                s.append("given " + below(6) + " " + below(5) + ";");
            } else {
                int[] gift = run.gives.get(below(run.gives.size()));
                s.append("given " + gift[1] + " " + gift[2] + ";");
            }
        }
        for (int g = 0; g < 5; g++) {
            int[] left = column(p, g);
            for (int i = below(9); i > 0; i--) {
                int a = below(p.houses);
                int b = below(p.houses);
                if (left[a] > 0 && left[b] < 18) {
                    left[a]--;
                    left[b]++;
                }
            }
            boolean wild = below(12) == 0;
            for (int h = 0; h < p.houses + below(2) && h < 6; h++) {
                if (below(30) > 0) {
                    s.append("left " + h + " " + g + " " + (wild ? below(19) : left[h]) + ";");
                }
            }
        }
        return s.toString();
    }

    private static int[] column(Plain.Place p, int g) {
        int[] all = new int[6];
        for (int h = 0; h < 6; h++) {
            all[h] = p.has[h][g];
        }
        return all;
    }

    private static void told(Source x, Plain.Place p) {
        int thieves = p.limits.size();
        for (int what = -3; what < 80; what++) {
            int at = Math.floorMod(what, 10);
            int due = -2;
            switch (Math.floorDiv(what, 10)) {
                case 0 -> due = what == 0 ? p.houses : what == 1 ? thieves : -2;
                case 1 -> due = at < p.houses ? p.watch[at] : -2;
                case 2 -> due = at < p.houses ? p.passes[at] : -2;
                case 3 -> due = at < 5 ? p.weight[at] : -2;
                case 4 -> due = at < 5 ? p.worth[at] : -2;
                case 5 -> due = at < thieves ? p.limits.get(at) : -2;
                case 6 -> due = at < thieves ? p.father[at] : -2;
                default -> { }
            }
            check.same("town " + what, x.on().town(atTown, what), due);
        }
        for (int h = -1; h < 7; h++) {
            for (int g = -1; g < 6; g++) {
                boolean is = h >= 0 && h < p.houses && g >= 0 && g < 5;
                check.same("house 0", x.on().house(atTown, h, g, 0), is ? p.has[h][g] : NONE);
                check.same("house 1", x.on().house(atTown, h, g, 1), is ? p.needs[h][g] : NONE);
                check.same("house 2", x.on().house(atTown, h, g, 2), is ? p.spare(h, g) : NONE);
                check.same("house 3", x.on().house(atTown, h, g, 3), is ? p.lack(h, g) : NONE);
                check.same("house 4", x.on().house(atTown, h, g, 4), NONE);
                check.same("house -1", x.on().house(atTown, h, g, -1), NONE);
            }
        }
    }

    private static void states(Source x, Plain.Place p, Plain.Rule r, String nights) {
        int stop = Plain.stop(p, r, nights);
        check.same("stop " + nights, x.on().stop(atTown, atLaw, atNights), stop);
        check.same("state behind stop", x.on().state(atTown, atLaw, atNights, stop + 1, 0), -1000);
        check.same("wealth behind stop", x.on().wealth(atTown, atLaw, atNights, stop + 1, 0), -1000);
        check.same("goods behind stop", x.on().goods(atTown, atLaw, atNights, stop + 1, NONE, 0, 0), NONE);
        int[] places = {0, below(stop + 1), below(stop + 1), stop};
        for (int n : places) {
            Plain.Run run = Plain.run(p, r, nights, n);
            List<Integer> queue = run.queue();
            for (int what = -2; what < 80; what++) {
                int due = what == 0 ? run.night : what >= 10 && what < 20
                    ? what - 10 < queue.size() ? queue.get(what - 10) : NONE : run.view(what);
                check.same("state " + n + " " + what, x.on().state(atTown, atLaw, atNights, n, what), due);
            }
            things(x, p, run, n);
            riches(x, p, run, n);
        }
    }

    private static void things(Source x, Plain.Place p, Plain.Run run, int n) {
        for (int t = -2; t < 5; t++) {
            for (int h = -2; h < 7; h++) {
                for (int g = -1; g < 6; g++) {
                    boolean isThief = t >= 0 && t < p.limits.size();
                    boolean isHouse = h >= 0 && h < p.houses;
                    int due = g < 0 || g > 4 ? NONE : isHouse && t == NONE ? run.has(h, g)
                        : isThief && h == NONE ? run.bag(t, g) : isThief && isHouse ? run.took(t, h, g) : NONE;
                    check.same("goods " + n + " " + t + " " + h + " " + g, x.on().goods(atTown, atLaw, atNights, n, t, h, g), due);
                }
            }
        }
    }

    private static void riches(Source x, Plain.Place p, Plain.Run run, int n) {
        List<Integer> rank = Plain.rank(run);
        int all = 0;
        int differences = 0;
        int robbed = 0;
        for (int a = 0; a < p.houses; a++) {
            all += run.wealth(a);
            for (int b = 0; b < a; b++) {
                differences += Math.abs(run.wealth(a) - run.wealth(b));
            }
            int takers = 0;
            for (int t = 0; t < 4; t++) {
                takers += Math.min(1, run.took(t, a, -1));
            }
            robbed += takers > 1 ? 1 << a : 0;
        }
        int[] unlike = Plain.terms(differences, p.houses * all);
        for (int what = -2; what < 50; what++) {
            int at = Math.floorMod(what, 10);
            int due = -1000;
            switch (what) {
                case 0 -> due = Plain.settle(run);
                case 1 -> due = run.wealth(rank.get(0)) - run.wealth(rank.get(p.houses - 1));
                case 2 -> due = unlike[0];
                case 3 -> due = unlike[1];
                case 4 -> due = robbed;
                default -> due = what >= 10 && what < 20 && at < p.limits.size() ? Plain.can(run, at)
                    : what >= 20 && what < 30 && at < p.houses ? run.wealth(at)
                    : what >= 30 && what < 40 && at < p.houses ? rank.get(at) : -1000;
            }
            check.same("wealth " + n + " " + what, x.on().wealth(atTown, atLaw, atNights, n, what), due);
        }
    }

    private static void sights(Source x, Plain.Place p, Plain.Rule r, String nights, String sight) {
        Plain.Seen s = Plain.seen(sight);
        int gifts = s.gifts.size();
        for (int what = -2; what < 70; what++) {
            int due = what == 0 ? gifts : what >= 10 && what < 10 + gifts ? s.gifts.get(what - 10)[0]
                : what >= 20 && what < 20 + gifts ? s.gifts.get(what - 20)[1]
                : what >= 30 && what < 60 ? s.left.getOrDefault(what - 30, NONE) : -2;
            check.same("sight " + what, x.on().sight(atSight, what), due);
        }
        int[] hands = Plain.hands(Plain.run(p, r, nights, Plain.stop(p, r, nights)), s);
        for (int gift = -2; gift < 10; gift++) {
            int due = gift >= -1 && gift < gifts ? hands[gift + 1] : NONE;
            check.same("hands " + gift, x.on().hands(atTown, atLaw, atNights, atSight, gift), due);
        }
        check.same("moved", x.on().moved(atTown, atSight, false), Plain.moved(p, s, false));
        check.same("unseen", x.on().moved(atTown, atSight, true), Plain.moved(p, s, true));
    }

    private static void plans(Source x, Plain.Place p, Plain.Rule r) {
        for (int what = -1; what < 45; what++) {
            check.same("aid " + what, x.on().aid(atTown, what), Plain.aid(p, what));
        }
        check.same("carry", x.on().carry(atTown), Plain.carry(p));
        for (int a = -2; a < 7; a++) {
            boolean is = a >= 0 && a < p.houses;
            check.same("round " + a, x.on().round(atTown, a), is || a == NONE ? Plain.round(p, a) : NONE);
            for (int b = -1; b < 7; b++) {
                boolean both = is && b >= 0 && b < p.houses;
                check.same("meets " + a + " " + b, x.on().meets(atTown, a, b), both ? Plain.meets(p, a, b) : NONE);
            }
        }
        for (int g = -1; g < 6; g++) {
            check.same("even " + g, x.on().even(atTown, g), g >= 0 && g < 5 ? Plain.even(p, g) : NONE);
        }
        for (int n = -1; n < 39; n++) {
            int who = n < 1 || n > 36 ? NONE : Plain.crew(p, n);
            check.same("crew " + n, x.on().crew(atTown, n, true), who);
            check.same("crew size " + n, x.on().crew(atTown, n, false), who < 0 ? NONE : Integer.bitCount(who));
        }
        for (int i = 0; i < 4; i++) {
            int h = below(p.houses);
            int n = below(10);
            int w = below(below(2) == 0 ? 12 : 100);
            int[] haul = Plain.haul(p, h, n, w);
            check.same("haul", x.on().haul(atTown, h, n, w, 0), haul[0]);
            for (int g = 0; g < 5; g++) {
                check.same("haul " + g, x.on().haul(atTown, h, n, w, 10 + g), haul[1 + g]);
            }
        }
        for (int i = 0; i < 3; i++) {
            int m = below(41);
            int g = 1 + below(9);
            int from = below(20);
            int to = below(i < 2 ? 25 : 61);
            check.same("quit " + m + " " + g + " " + from + " " + to, x.on().quit(atLaw, m, g, from, to), Plain.quit(r, m, g, from, to));
            check.same("quit " + m + " " + g + " " + from, x.on().quit(atLaw, m, g, from, NONE), Plain.quit(r, m, g, from, NONE));
        }
    }

    private static void game(Source x, Plain.Place p) {
        int all = 0;
        for (int h = 0; h < p.houses; h++) {
            all += p.worth(h);
        }
        for (int a = -1; a < 7; a++) {
            boolean is = a >= 0 && a < p.houses;
            int[] share = is ? Plain.terms(p.worth(a), all) : new int[] {NONE, NONE};
            check.same("share " + a, x.on().share(atTown, a, false), share[0]);
            check.same("share under " + a, x.on().share(atTown, a, true), share[1]);
            for (int b = -1; b < 7; b++) {
                boolean both = is && b >= 0 && b < p.houses;
                check.same("prize " + a + " " + b, x.on().prize(atTown, a, b), both ? Plain.prize(p, a, b) : -1000);
            }
        }
        rows(Plain.rests(p), k -> x.on().rest(atTown, k), "rest");
        rows(Plain.pairs(p), k -> x.on().pairs(atTown, k), "pairs");
    }

    private static void rows(List<Integer> due, java.util.function.IntUnaryOperator got, String name) {
        check.same(name, got.applyAsInt(NONE), due.size());
        check.same(name + " -2", got.applyAsInt(-2), NONE);
        for (int k = 0; k < due.size() + 3; k++) {
            check.same(name + " " + k, got.applyAsInt(k), k < due.size() ? due.get(k) : NONE);
        }
    }

    private static void drawn(Source x, Plain.Place p, Plain.Rule r) {
        int seed = random.nextInt();
        int nights = 1 + below(30);
        Plain.Run run = Plain.drawn(p, r, seed, nights);
        for (int what = -2; what < 110; what++) {
            int at = what - 70;
            int due = what >= 70 ? at < 5 * p.houses ? run.has(at / 5, at % 5) : -1000
                : what < 1 || what >= 10 && what < 20 ? -1000 : run.view(what);
            check.same("drawn " + seed + " " + nights + " " + what, x.on().drawn(atTown, atLaw, seed, nights, what), due);
        }
    }
}
