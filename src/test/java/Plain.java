import java.util.ArrayList;
import java.util.Arrays;
import java.util.Collections;
import java.util.HashMap;
import java.util.List;
import java.util.Map;
import java.util.regex.Matcher;
import java.util.regex.Pattern;

/**
 * The document's terms a second time, by trial of all there is rather than by rules found out,
 * for texts without faults: what OneBack answers is measured by it.
 */
final class Plain {
    static final class Place {
        int houses = 3;
        int[][] has = new int[6][5];
        int[][] needs = new int[6][5];
        int[] watch = new int[6];
        int[] passes = {0, 1, 2, 3, 4, 5};
        int[] weight = {1, 1, 1, 1, 1};
        int[] worth = {1, 1, 1, 1, 1};
        List<Integer> limits = new ArrayList<>();
        int[] father = {-1, -1, -1, -1};

        int spare(int h, int g) {
            return has[h][g] > needs[h][g] ? has[h][g] - needs[h][g] : 0;
        }

        int lack(int h, int g) {
            return needs[h][g] > has[h][g] ? needs[h][g] - has[h][g] : 0;
        }

        int worth(int h) {
            int all = 0;
            for (int g = 0; g < 5; g++) {
                all += has[h][g] * worth[g];
            }
            return all;
        }
    }

    static final class Rule {
        int rate = 2;
        int limit = 20;
        boolean[] twice = new boolean[100];
    }

    static final class Seen {
        List<int[]> gifts = new ArrayList<>();
        Map<Integer, Integer> left = new HashMap<>();
    }

    static List<List<Object>> lines(String text) {
        List<List<Object>> all = new ArrayList<>();
        Matcher m = Pattern.compile("[a-z]+|[0-9]+|;").matcher(text);
        List<Object> line = new ArrayList<>();
        while (m.find()) {
            String s = m.group();
            if (s.equals(";")) {
                all.add(line);
                line = new ArrayList<>();
            } else {
                line.add(Character.isDigit(s.charAt(0)) ? (Object) Integer.parseInt(s) : s);
            }
        }
        return all;
    }

    static int number(List<Object> line, int i) {
        return (Integer) line.get(i);
    }

    static Place place(String text) {
        Place p = new Place();
        for (List<Object> l : lines(text)) {
            switch ((String) l.get(0)) {
                case "houses" -> p.houses = number(l, 1);
                case "has" -> p.has[number(l, 1)][number(l, 2)] = number(l, 3);
                case "needs" -> p.needs[number(l, 1)][number(l, 2)] = number(l, 3);
                case "watch" -> p.watch[number(l, 1)] = number(l, 2);
                case "passes" -> p.passes[number(l, 1)] = number(l, 2);
                case "weight" -> p.weight[number(l, 1)] = number(l, 2);
                case "worth" -> p.worth[number(l, 1)] = number(l, 2);
                case "thief" -> p.limits.add(number(l, 1));
                default -> p.father[number(l, 1)] = number(l, 2);
            }
        }
        return p;
    }

    static Rule rule(String text) {
        Rule r = new Rule();
        for (List<Object> l : lines(text)) {
            switch ((String) l.get(0)) {
                case "rate" -> r.rate = number(l, 1);
                case "catch" -> r.limit = number(l, 1);
                default -> r.twice[number(l, 1)] = true;
            }
        }
        return r;
    }

    static Seen seen(String text) {
        Seen s = new Seen();
        for (List<Object> l : lines(text)) {
            if (l.get(0).equals("given")) {
                s.gifts.add(new int[] {number(l, 1), number(l, 2)});
            } else {
                s.left.put(5 * number(l, 1) + number(l, 2), number(l, 3));
            }
        }
        return s;
    }

    /** A state; all deeds are kept as rows, and sums are made of them when they are asked for. */
    static final class Run {
        final Place p;
        final Rule r;
        int night = 0;
        List<int[]> takes = new ArrayList<>();
        List<int[]> gives = new ArrayList<>();
        int[] moved = new int[4];
        boolean[] caught = new boolean[4];

        Run(Place p, Rule r) {
            this.p = p;
            this.r = r;
        }

        int took(int t, int h, int g) {
            return (int) takes.stream().filter(x -> (t < 0 || x[0] == t) && (h < 0 || x[1] == h) && (g < 0 || x[2] == g)).count();
        }

        int gave(int t, int h, int g) {
            return (int) gives.stream().filter(x -> (t < 0 || x[0] == t) && (h < 0 || x[1] == h) && (g < 0 || x[2] == g)).count();
        }

        int has(int h, int g) {
            return p.has[h][g] - took(-1, h, g) + gave(-1, h, g);
        }

        int lack(int h, int g) {
            return Math.max(0, p.needs[h][g] - has(h, g));
        }

        int bag(int t, int g) {
            return took(t, -1, g) - gave(t, -1, g);
        }

        int given(int t) {
            int all = moved[t];
            for (int[] x : gives) {
                all += x[0] != t ? 0 : r.twice[x[3]] ? 2 : 1;
            }
            return all;
        }

        int owes(int t) {
            return took(t, -1, -1) / r.rate - given(t);
        }

        int trace(int t) {
            int all = 0;
            for (int[] x : gives) {
                all += x[0] == t && x[3] < night ? p.watch[x[1]] : 0;
            }
            return all;
        }

        boolean free(int t) {
            return t < p.limits.size() && !caught[t];
        }

        boolean take(int t, int h, int g) {
            if (!free(t) || h >= p.houses || has(h, g) < 1) {
                return false;
            }
            if (takes.stream().filter(x -> x[0] == t && x[3] == night).count() >= p.limits.get(t)) {
                return false;
            }
            takes.add(new int[] {t, h, g, night});
            return true;
        }

        boolean give(int t, int h, int g) {
            if (!free(t) || h >= p.houses || bag(t, g) < 1 || has(h, g) >= p.needs[h][g] || took(t, h, g) > 0) {
                return false;
            }
            gives.add(new int[] {t, h, g, night});
            return true;
        }

        boolean set(int a, int b, int n) {
            if (!free(a) || !free(b) || p.father[a] == b || p.father[b] == a || owes(a) < n || owes(b) > -n) {
                return false;
            }
            moved[a] += n;
            moved[b] -= n;
            return true;
        }

        void night() {
            night++;
            for (int t = 0; t < p.limits.size(); t++) {
                caught[t] = trace(t) >= r.limit;
            }
        }

        boolean act(List<Object> l) {
            switch ((String) l.get(0)) {
                case "take":
                    return take(number(l, 1), number(l, 2), number(l, 3));
                case "give":
                    return give(number(l, 1), number(l, 2), number(l, 3));
                case "set":
                    return set(number(l, 1), number(l, 2), number(l, 3));
                default:
                    night();
                    return true;
            }
        }

        List<Integer> queue() {
            List<Integer> all = new ArrayList<>();
            for (int i = 0; i < takes.size(); i++) {
                Integer t = takes.get(i)[0];
                all.remove(t);
                all.add(t);
            }
            all.removeIf(t -> took(t, -1, -1) % r.rate == 0);
            return all;
        }

        int wealth(int h) {
            int all = 0;
            for (int g = 0; g < 5; g++) {
                all += has(h, g) * p.worth[g];
            }
            return all;
        }

        /** As state(), but for the night and the queue. */
        int view(int what) {
            int thieves = p.limits.size();
            int at = what % 10;
            if (what == 1) {
                int all = 0;
                for (int h = 0; h < p.houses; h++) {
                    for (int g = 0; g < 5; g++) {
                        all += lack(h, g);
                    }
                }
                return all;
            }
            if (what == 2) {
                int bits = 0;
                for (int t = 0; t < 4; t++) {
                    bits += caught[t] ? 1 << t : 0;
                }
                return bits;
            }
            if (what == 3) {
                int best = -1;
                for (int t = thieves - 1; t >= 0; t--) {
                    best = best < 0 || owes(t) <= owes(best) ? t : best;
                }
                return best;
            }
            if (what >= 60 && what < 60 + p.houses) {
                return took(-1, at, -1);
            }
            if (what < 20 || what >= 60 || at >= thieves) {
                return -1000;
            }
            return what < 30 ? took(at, -1, -1) : what < 40 ? given(at) : what < 50 ? owes(at) : trace(at);
        }
    }

    static int stop(Place p, Rule r, String nights) {
        Run run = new Run(p, r);
        List<List<Object>> all = lines(nights);
        for (int i = 0; i < all.size(); i++) {
            if (!run.act(all.get(i))) {
                return i;
            }
        }
        return all.size();
    }

    static Run run(Place p, Rule r, String nights, int n) {
        Run run = new Run(p, r);
        List<List<Object>> all = lines(nights);
        for (int i = 0; i < n; i++) {
            run.act(all.get(i));
        }
        return run;
    }

    static Run drawn(Place p, Rule r, int seed, int nights) {
        Run run = new Run(p, r);
        long[] x = {seed};
        for (int n = 0; n < nights; n++) {
            for (int t = 0; t < p.limits.size(); t++) {
                if (!run.caught[t]) {
                    for (int i = 0; i < p.limits.get(t); i++) {
                        int h = below(x, p.houses);
                        int g = below(x, 5);
                        run.take(t, h, g);
                    }
                    giveAll(run, t);
                }
            }
            run.night();
        }
        return run;
    }

    private static void giveAll(Run run, int t) {
        while (run.owes(t) > 0) {
            boolean gave = false;
            for (int g = 0; g < 5 && !gave; g++) {
                for (int h = 0; h < run.p.houses && !gave; h++) {
                    gave = run.give(t, h, g);
                }
            }
            if (!gave) {
                return;
            }
        }
    }

    private static int below(long[] x, int n) {
        x[0] = (x[0] * 1103515245L + 12345L) & 0xffffffffL;
        return (int) ((x[0] >> 16) % n);
    }

    /** The cheapest way from what is sent to what is wanted, by one thing after another. */
    static int cheapest(int[] sent, int[] wanted, int n, boolean anywhere) {
        int[][] flow = new int[n + 2][n + 2];
        int[][] room = new int[n + 2][n + 2];
        int[][] cost = new int[n + 2][n + 2];
        for (int a = 0; a < n; a++) {
            room[n][a] = sent[a];
            room[a][n + 1] = wanted[a];
            for (int b = 0; b < n; b++) {
                room[a][b] = a != b && (anywhere || Math.abs(a - b) == 1) ? 10000 : 0;
                cost[a][b] = a == b ? 0 : 1;
            }
        }
        int all = 0;
        for (int want = Arrays.stream(wanted).sum(); want > 0; want--) {
            int[] far = new int[n + 2];
            int[] from = new int[n + 2];
            Arrays.fill(far, 1 << 20);
            far[n] = 0;
            for (int k = 0; k < n + 2; k++) {
                for (int a = 0; a < n + 2; a++) {
                    for (int b = 0; b < n + 2; b++) {
                        boolean back = flow[b][a] > 0;
                        int c = back ? -cost[b][a] : cost[a][b];
                        if ((back || flow[a][b] < room[a][b]) && far[a] + c < far[b]) {
                            far[b] = far[a] + c;
                            from[b] = a;
                        }
                    }
                }
            }
            if (far[n + 1] >= 1 << 19) {
                return -1;
            }
            all += far[n + 1];
            for (int b = n + 1; b != n; b = from[b]) {
                int a = from[b];
                if (flow[b][a] > 0) {
                    flow[b][a]--;
                } else {
                    flow[a][b]++;
                }
            }
        }
        return all;
    }

    static int carry(Place p) {
        int all = 0;
        for (int g = 0; g < 5; g++) {
            int[] spare = new int[6];
            int[] lack = new int[6];
            for (int h = 0; h < p.houses; h++) {
                spare[h] = p.spare(h, g);
                lack[h] = p.lack(h, g);
            }
            int c = cheapest(spare, lack, p.houses, false);
            if (c < 0) {
                return -1;
            }
            all += c * p.weight[g];
        }
        return all;
    }

    static int moved(Place p, Seen s, boolean unseen) {
        int all = 0;
        for (int g = 0; g < 5; g++) {
            int[] before = new int[6];
            int[] behind = new int[6];
            boolean told = true;
            for (int h = 0; h < p.houses; h++) {
                before[h] = p.has[h][g];
                Integer left = s.left.get(5 * h + g);
                told = told && left != null;
                behind[h] = left == null ? 0 : left;
            }
            if (told) {
                if (Arrays.stream(before).sum() != Arrays.stream(behind).sum()) {
                    return -1;
                }
                all += cheapest(before, behind, p.houses, unseen);
            }
        }
        return all;
    }

    /** Takings of a good house by house, all that there can be; the best by cost, then by the watch's order. */
    static int[] aidOf(Place p, int g) {
        int lack = 0;
        List<Integer> row = new ArrayList<>();
        for (int h = 0; h < p.houses; h++) {
            lack += p.lack(h, g);
            for (int i = 0; i < p.spare(h, g); i++) {
                row.add(100 * p.watch[h] + h);
            }
        }
        Collections.sort(row);
        if (row.size() < lack) {
            return null;
        }
        int[] all = new int[6];
        for (int i = 0; i < lack; i++) {
            all[row.get(i) % 100]++;
        }
        return all;
    }

    static int aid(Place p, int what) {
        if (what != 0 && what != 1 && what != 2 && (what < 10 || what >= 10 + 5 * p.houses)) {
            return -2;
        }
        int cost = 0;
        int things = 0;
        int answer = 0;
        for (int g = 0; g < 5; g++) {
            int[] all = aidOf(p, g);
            if (all == null) {
                return -1;
            }
            for (int h = 0; h < p.houses; h++) {
                cost += all[h] * p.watch[h];
                things += all[h];
                answer = what == 10 + 5 * h + g ? all[h] : answer;
            }
        }
        int limits = p.limits.stream().mapToInt(i -> i).sum();
        if (what == 2) {
            int nights = 0;
            while (nights * limits < things) {
                nights++;
                if (limits == 0) {
                    return -1;
                }
            }
            return nights;
        }
        return what == 0 ? cost : what == 1 ? things : answer;
    }

    static int cowAt(Place p, int h, int night) {
        int at = h;
        for (int i = 0; i < night; i++) {
            at = p.passes[at];
        }
        return at;
    }

    static int round(Place p, int house) {
        for (int night = 1; night < 1000; night++) {
            boolean home = true;
            for (int h = 0; h < p.houses; h++) {
                home = home && (house != -1 && h != house || cowAt(p, h, night) == h);
            }
            if (home) {
                return night;
            }
        }
        return -1;
    }

    static int meets(Place p, int a, int b) {
        for (int night = 0; night <= 40; night++) {
            if (cowAt(p, a, night) == cowAt(p, b, night)) {
                return night;
            }
        }
        return -1;
    }

    /** All rows of hands; a row counts if nobody has more of one sort of gifts than he gave. */
    static int[] hands(Run run, Seen s) {
        int gifts = s.gifts.size();
        int[] answer = new int[1 + gifts];
        int thieves = run.p.limits.size();
        int[] hand = new int[gifts];
        int all = (int) Math.pow(thieves, gifts);
        for (int k = 0; k < all; k++) {
            int x = k;
            for (int i = 0; i < gifts; i++) {
                hand[i] = x % thieves;
                x /= thieves;
            }
            if (fits(run, s, hand)) {
                answer[0]++;
                for (int i = 0; i < gifts; i++) {
                    answer[1 + i] |= 1 << hand[i];
                }
            }
        }
        return answer;
    }

    private static boolean fits(Run run, Seen s, int[] hand) {
        for (int i = 0; i < hand.length; i++) {
            int[] gift = s.gifts.get(i);
            int of = 0;
            for (int j = 0; j < hand.length; j++) {
                of += hand[j] == hand[i] && Arrays.equals(gift, s.gifts.get(j)) ? 1 : 0;
            }
            if (of > run.gave(hand[i], gift[0], gift[1])) {
                return false;
            }
        }
        return true;
    }

    static int quit(Rule r, int m, int g, int from, int to) {
        int[] least = new int[2000];
        Arrays.fill(least, 1 << 20);
        least[0] = 0;
        for (int night = from; night <= (to < 0 ? 60 : to); night++) {
            int[] next = new int[2000];
            Arrays.fill(next, 1 << 20);
            for (int had = 0; had < 1900; had++) {
                for (int n = 0; n <= g; n++) {
                    int now = had + n * (r.twice[night] ? 2 : 1);
                    next[now] = Math.min(next[now], least[had] + n);
                }
            }
            least = next;
            if (to < 0 && fewest(least, m) < 1 << 20) {
                return night;
            }
        }
        int n = fewest(least, m);
        return to < from || n >= 1 << 20 ? -1 : n;
    }

    private static int fewest(int[] least, int m) {
        return Arrays.stream(least, m, least.length).min().getAsInt();
    }

    static int prize(Place p, int own, int other) {
        return own == other ? p.worth(own) / 2 - 3 * p.watch[own] : p.worth(own) - 2 * p.watch[own];
    }

    static List<Integer> rests(Place p) {
        List<Integer> all = new ArrayList<>();
        for (int a = 0; a < p.houses; a++) {
            for (int b = 0; b < p.houses; b++) {
                boolean rest = true;
                for (int c = 0; c < p.houses; c++) {
                    rest = rest && prize(p, c, b) <= prize(p, a, b) && prize(p, c, a) <= prize(p, b, a);
                }
                if (rest) {
                    all.add(6 * a + b);
                }
            }
        }
        return all;
    }

    static int[] terms(int n, int d) {
        if (n == 0 || d == 0) {
            return new int[] {0, 1};
        }
        for (int k = Math.min(n, d); k > 1; k--) {
            if (n % k == 0 && d % k == 0) {
                return new int[] {n / k, d / k};
            }
        }
        return new int[] {n, d};
    }

    /** Over all goals of which no two differ by more than one. */
    static int even(Place p, int g) {
        int all = 0;
        for (int h = 0; h < p.houses; h++) {
            all += p.has[h][g];
        }
        int best = 1 << 20;
        for (int low = 0; low <= 9; low++) {
            for (int who = 0; who < 1 << p.houses; who++) {
                if (p.houses * low + Integer.bitCount(who) == all) {
                    int moves = 0;
                    for (int h = 0; h < p.houses; h++) {
                        moves += Math.max(0, p.has[h][g] - low - (who >> h & 1));
                    }
                    best = Math.min(best, moves);
                }
            }
        }
        return best;
    }

    /** WORTH, and how many of each. */
    static int[] haul(Place p, int h, int n, int w) {
        int[] best = {-1, 0, 0, 0, 0, 0};
        int[] has = p.has[h];
        for (int a = 0; a <= has[0]; a++) {
            for (int b = 0; b <= has[1]; b++) {
                for (int c = 0; c <= has[2]; c++) {
                    for (int d = 0; d <= has[3]; d++) {
                        for (int e = 0; e <= has[4]; e++) {
                            int[] k = {0, a, b, c, d, e};
                            int weight = 0;
                            for (int g = 0; g < 5; g++) {
                                k[0] += k[1 + g] * p.worth[g];
                                weight += k[1 + g] * p.weight[g];
                            }
                            if (a + b + c + d + e <= n && weight <= w && Arrays.compare(k, best) > 0) {
                                best = k;
                            }
                        }
                    }
                }
            }
        }
        return best;
    }

    static int crew(Place p, int n) {
        for (int size = 1; size <= p.limits.size(); size++) {
            for (int who = 0; who < 1 << p.limits.size(); who++) {
                int all = 0;
                for (int t = 0; t < p.limits.size(); t++) {
                    all += (who >> t & 1) * p.limits.get(t);
                }
                if (Integer.bitCount(who) == size && all >= n) {
                    return who;
                }
            }
        }
        return -1;
    }

    static List<Integer> pairs(Place p) {
        List<Integer> all = new ArrayList<>();
        for (int a = 0; a < p.houses; a++) {
            for (int b = a + 1; b < p.houses; b++) {
                boolean ab = false;
                boolean ba = false;
                for (int g = 0; g < 5; g++) {
                    ab = ab || p.spare(a, g) > 0 && p.lack(b, g) > 0;
                    ba = ba || p.spare(b, g) > 0 && p.lack(a, g) > 0;
                }
                if (ab && ba) {
                    all.add(6 * a + b);
                }
            }
        }
        return all;
    }

    /** Sets of one thing each, all rows of them. */
    static int settle(Place p, int[] owes, boolean[] free, Map<String, Integer> known) {
        String key = Arrays.toString(owes);
        Integer old = known.get(key);
        if (old != null) {
            return old;
        }
        int best = 0;
        for (int a = 0; a < owes.length; a++) {
            for (int b = 0; b < owes.length; b++) {
                if (free[a] && free[b] && owes[a] > 0 && owes[b] < 0 && p.father[a] != b && p.father[b] != a) {
                    owes[a]--;
                    owes[b]++;
                    best = Math.max(best, 1 + settle(p, owes, free, known));
                    owes[a]++;
                    owes[b]--;
                }
            }
        }
        known.put(key, best);
        return best;
    }

    static int settle(Run run) {
        int n = run.p.limits.size();
        int[] owes = new int[n];
        boolean[] free = new boolean[n];
        for (int t = 0; t < n; t++) {
            owes[t] = run.owes(t);
            free[t] = run.free(t);
        }
        return settle(run.p, owes, free, new HashMap<>());
    }

    /** Gives as long as there is something that he may give: which one comes first is all one. */
    static int can(Run run, int t) {
        int before = run.gives.size();
        boolean gave = true;
        while (gave) {
            gave = false;
            for (int h = 0; h < run.p.houses; h++) {
                for (int g = 4; g >= 0; g--) {
                    gave = run.give(t, h, g) || gave;
                }
            }
        }
        int n = run.gives.size() - before;
        while (run.gives.size() > before) {
            run.gives.remove(run.gives.size() - 1);
        }
        return n;
    }

    static List<Integer> rank(Run run) {
        List<Integer> all = new ArrayList<>();
        for (int h = 0; h < run.p.houses; h++) {
            all.add(h);
        }
        all.sort((a, b) -> run.wealth(b) - run.wealth(a));
        return all;
    }
}
