import java.util.ArrayList;
import java.util.List;
import java.util.regex.Matcher;
import java.util.regex.Pattern;

/** FAULTS of texts a second time: whether a text goes on with a token is asked of a regular expression. */
final class PlainText {
    /** Of each sort its lines: a word, and of each of its numbers the least and the most. */
    static final String[][] LINES = {
        {"houses 1-6", "has 0-5 0-4 0-9", "needs 0-5 0-4 0-9", "watch 0-5 0-9", "passes 0-5 0-5", "weight 0-4 1-9",
            "worth 0-4 0-9", "son 0-3 0-3", "thief 1-9"},
        {"rate 2-5", "catch 1-99", "double 0-19"},
        {"take 0-3 0-5 0-4", "give 0-3 0-5 0-4", "set 0-3 0-3 1-9", "night"},
        {"given 0-5 0-4", "left 0-5 0-4 0-18"}};
    private static final Pattern TOKEN = Pattern.compile("[ \\n]*([a-z]+|[0-9]+|[^a-z0-9 \\n])");

    final int fault;
    final int place;

    private PlainText(int fault, int place) {
        this.fault = fault;
        this.place = place;
    }

    static PlainText of(int sort, String text) {
        List<String> tokens = new ArrayList<>();
        List<Integer> places = new ArrayList<>();
        Matcher m = TOKEN.matcher(text);
        while (m.find()) {
            tokens.add(m.group(1));
            places.add(m.start(1));
        }
        places.add(text.length());
        int broken = broken(sort, tokens);
        if (broken >= 0) {
            return new PlainText(1, places.get(broken));
        }
        PlainText number = number(sort, tokens, places);
        return number != null ? number : notThere(sort, tokens, text.length());
    }

    /** Which token no text goes on with; how many there are, if it is the end; -1 if there is none. */
    private static int broken(int sort, List<String> tokens) {
        StringBuilder grammar = new StringBuilder("((");
        for (int i = 0; i < LINES[sort].length; i++) {
            grammar.append(i == 0 ? "" : "|").append((char) ('A' + i)).append("n".repeat(LINES[sort][i].split(" ").length - 1));
        }
        Pattern p = Pattern.compile(grammar + ");)*");
        StringBuilder row = new StringBuilder();
        for (int k = 0; k < tokens.size(); k++) {
            row.append(kind(sort, tokens.get(k)));
            Matcher m = p.matcher(row);
            if (!m.matches() && !m.hitEnd()) {
                return k;
            }
        }
        return p.matcher(row).matches() ? -1 : tokens.size();
    }

    private static char kind(int sort, String token) {
        for (int i = 0; i < LINES[sort].length; i++) {
            if (LINES[sort][i].split(" ")[0].equals(token)) {
                return (char) ('A' + i);
            }
        }
        return token.matches("[0-9][0-9]?") ? 'n' : token.equals(";") ? ';' : '?';
    }

    private static PlainText number(int sort, List<String> tokens, List<Integer> places) {
        int further = 0;
        int most = sort == 0 ? 4 : sort == 2 ? 40 : 8;
        for (int k = 0; k < tokens.size();) {
            String[] line = LINES[sort][kind(sort, tokens.get(k)) - 'A'].split(" ");
            boolean isFurther = line[0].equals("thief") || sort == 2 || line[0].equals("given");
            further += isFurther ? 1 : 0;
            if (isFurther && further > most) {
                return new PlainText(3, places.get(k));
            }
            for (int i = 1; i < line.length; i++) {
                int n = Integer.parseInt(tokens.get(k + i));
                String[] bounds = line[i].split("-");
                boolean twice = i == 2 && line[0].matches("son|set") && n == Integer.parseInt(tokens.get(k + 1));
                if (n < Integer.parseInt(bounds[0]) || n > Integer.parseInt(bounds[1]) || twice) {
                    return new PlainText(2, places.get(k + i));
                }
            }
            k += line.length + 1;
        }
        return null;
    }

    private static PlainText notThere(int sort, List<String> tokens, int end) {
        if (sort != 0) {
            return new PlainText(0, OneBack.NONE);
        }
        Plain.Place p = Plain.place(String.join(" ", tokens));
        boolean isThere = true;
        for (List<Object> l : Plain.lines(String.join(" ", tokens))) {
            String word = (String) l.get(0);
            if (word.matches("has|needs|watch|passes")) {
                isThere &= Plain.number(l, 1) < p.houses;
            }
            if (word.equals("passes")) {
                isThere &= Plain.number(l, 2) < p.houses;
            }
            if (word.equals("son")) {
                isThere &= Plain.number(l, 1) < p.limits.size() && Plain.number(l, 2) < p.limits.size();
            }
        }
        return isThere ? new PlainText(0, OneBack.NONE) : new PlainText(4, end);
    }
}
