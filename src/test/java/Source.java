import java.util.ArrayList;
import java.util.List;

/**
 * Gives out an object that was told some texts: a new one ahead of the 513th call, for nothing is
 * promised of an object behind its 512th. What is asked of it must not change it.
 */
final class Source {
    private static final int CALLS = 512;

    private final List<Integer> sorts = new ArrayList<>();
    private final List<String> texts = new ArrayList<>();
    private OneBack object = null;
    private int calls = 0;

    Source tell(int sort, String text) {
        sorts.add(sort);
        texts.add(text);
        object = null;
        return this;
    }

    /** A town, a law, nights and a sight; fewer, if fewer are told. */
    static Source of(String... bySort) {
        Source all = new Source();
        for (int sort = 0; sort < bySort.length; sort++) {
            all.tell(sort, bySort[sort]);
        }
        return all;
    }

    /** For one call. */
    OneBack on() {
        if (object == null || calls >= CALLS) {
            object = make();
            calls = cost();
        }
        calls++;
        return object;
    }

    /** An object of one's own. */
    OneBack make() {
        OneBack x = new OneBack();
        for (int i = 0; i < texts.size(); i++) {
            String text = texts.get(i);
            Check.feedAll(x, text);
            x.end(text.length());
            if (x.text(sorts.get(i), OneBack.NONE) < 0) {
                throw new IllegalStateException("fault " + x.fault(0) + " at " + x.fault(1) + " of '" + text + "'");
            }
        }
        return x;
    }

    private int cost() {
        int all = 0;
        for (String text : texts) {
            all += 2 + (text.length() + 19) / 20;
        }
        return all;
    }
}
