import java.nio.charset.StandardCharsets;

/** Counts what is not as due; tells texts by feed() and end(). */
final class Check {
    private final String name;
    private int asked = 0;
    private int wrong = 0;

    Check(String name) {
        this.name = name;
    }

    void same(String what, int got, int want) {
        asked++;
        if (got != want) {
            wrong++;
            if (wrong <= 20) {
                System.out.println(name + ": " + what + " answered " + got + ", due is " + want);
            }
        }
    }

    void same(String what, boolean got, boolean want) {
        same(what, got ? 1 : 0, want ? 1 : 0);
    }

    /** A row of answers, one for one. */
    void row(String what, int[] got, int... due) {
        same(what + ": how many", got.length, due.length);
        for (int i = 0; i < due.length && i < got.length; i++) {
            same(what + " " + i, got[i], due[i]);
        }
    }

    void finish() {
        System.out.println(name + ": " + (asked - wrong) + " as due, " + wrong + " not");
        if (wrong != 0) {
            System.exit(1);
        }
    }

    /** Puts a text behind the tape: full feeds of twenty bytes, then the end where the text ends. */
    static int feed(OneBack x, String text) {
        int before = x.feed(0, 0, 0, 0, 0);
        before = before == OneBack.NONE ? 600 : before - 20;
        x.end(before);
        feedAll(x, text);
        return x.end(before + text.length());
    }

    /** Full feeds alone: blanks stand behind the text, if it does not fill the last one. */
    static int feedAll(OneBack x, String text) {
        byte[] bytes = text.getBytes(StandardCharsets.ISO_8859_1);
        int last = OneBack.NONE;
        for (int at = 0; at < bytes.length; at += 20) {
            last = x.feed(word(bytes, at), word(bytes, at + 4), word(bytes, at + 8), word(bytes, at + 12), word(bytes, at + 16));
        }
        return last;
    }

    private static int word(byte[] bytes, int at) {
        int all = 0;
        for (int i = at; i < at + 4; i++) {
            all = all << 8 | (i < bytes.length ? bytes[i] & 255 : 32);
        }
        return all;
    }

    static int tell(OneBack x, int sort, int at, String text) {
        feed(x, text);
        return x.text(sort, at);
    }

    static int tell(OneBack x, int sort, String text) {
        return tell(x, sort, OneBack.NONE, text);
    }

    void fault(String text, int sort, int fault, int place) {
        OneBack x = new OneBack();
        int got = tell(x, sort, text);
        same("text " + sort + " '" + text + "'", got, fault == 0 ? 0 : OneBack.NONE);
        same("fault(0) of '" + text + "'", x.fault(0), fault);
        same("fault(1) of '" + text + "'", x.fault(1), place);
        same("count of '" + text + "'", x.count(sort), fault == 0 ? 1 : 0);
        same("the tape behind '" + text + "'", x.end(1), OneBack.NONE);
    }
}
