import java.util.Arrays;

/**
 * All that can be seen of an object, in parts, each of less than 400 calls: what is told, what
 * follows of it, the tape, and the same of each image. A part may change the object that it looks at.
 */
final class Look {
    private static final int NONE = OneBack.NONE;
    private static final int KINDS = 4;
    private static final int IMAGES = 3;
    static final int PARTS = KINDS * (1 + IMAGES);

    private int[] row = new int[500];
    private int size = 0;

    static int[] part(OneBack x, int k) {
        Look look = new Look();
        if (k >= KINDS && !x.again(k / KINDS - 1)) {
            return new int[] {0};
        }
        switch (k % KINDS) {
            case 0 -> look.told(x);
            case 1 -> look.deeds(x);
            case 2 -> look.follows(x);
            default -> look.tape(x);
        }
        return Arrays.copyOf(look.row, look.size);
    }

    private void put(int answer) {
        row[size] = answer;
        size++;
    }

    private void told(OneBack x) {
        for (int sort = -1; sort < 5; sort++) {
            put(x.count(sort));
        }
        put(x.fault(0));
        put(x.fault(1));
        for (int k = 0; k < 2; k++) {
            town(x, k);
            put(x.law(k, 0));
            put(x.law(k, 1));
            for (int night = 0; night < 20; night++) {
                put(x.law(k, 10 + night));
            }
        }
    }

    private void town(OneBack x, int town) {
        put(x.town(town, 0));
        put(x.town(town, 1));
        for (int row = 10; row <= 60; row += 10) {
            for (int at = 0; at < 6; at++) {
                put(x.town(town, row + at));
            }
        }
        for (int cell = 0; cell < 30; cell++) {
            put(x.house(town, cell / 5, cell % 5, 0));
            put(x.house(town, cell / 5, cell % 5, 1));
        }
    }

    private void deeds(OneBack x) {
        for (int k = 0; k < 2; k++) {
            put(x.deed(k, NONE, 0));
            for (int deed = 0; deed < 40; deed++) {
                for (int what = 0; what < 4; what++) {
                    put(x.deed(k, deed, what));
                }
            }
        }
    }

    private void follows(OneBack x) {
        for (int k = 0; k < 2; k++) {
            follows(x, k);
        }
    }

    /** What follows of the first or the second of each sort. */
    static int[] of(OneBack x, int k) {
        Look look = new Look();
        look.follows(x, k);
        return Arrays.copyOf(look.row, look.size);
    }

    private void follows(OneBack x, int k) {
        put(x.sight(k, 0));
        for (int what = 10; what < 60; what++) {
            if (what < 18 || what >= 20 && what < 28 || what >= 30) {
                put(x.sight(k, what));
            }
        }
        states(x, k);
        plans(x, k);
    }

    private void states(OneBack x, int k) {
        put(x.stop(k, k, k));
        for (int what : new int[] {0, 1, 2, 3, 10, 11, 20, 21, 30, 40, 50, 60}) {
            put(x.state(k, k, k, 3, what));
            put(x.drawn(k, k, 7, 3, what));
        }
        for (int what : new int[] {0, 1, 2, 3, 4, 10, 20, 30}) {
            put(x.wealth(k, k, k, 3, what));
        }
        put(x.goods(k, k, k, 3, NONE, 0, 0));
        put(x.goods(k, k, k, 3, 0, NONE, 0));
        put(x.goods(k, k, k, 3, 0, 0, 0));
        put(x.hands(k, k, k, k, NONE));
        put(x.hands(k, k, k, k, 0));
    }

    private void plans(OneBack x, int k) {
        for (int what = 0; what < 20; what++) {
            put(x.aid(k, what));
        }
        put(x.carry(k));
        put(x.round(k, NONE));
        put(x.meets(k, 0, 1));
        put(x.moved(k, k, false));
        put(x.quit(k, 9, 2, 0, 9));
        put(x.prize(k, 0, 1));
        put(x.rest(k, NONE));
        put(x.share(k, 0, true));
        put(x.even(k, 0));
        put(x.haul(k, 0, 4, 9, 0));
        put(x.crew(k, 4, true));
        put(x.pairs(k, NONE));
    }

    /** How long it is, and what is on it: as a town, in the place of the first, or as the first. */
    private void tape(OneBack x) {
        int length = x.feed(0, 0, 0, 0, 0) - 20;
        if (length < 0) {
            length = 600;
            while (length > 580 && x.end(length) == NONE) {
                length--;
            }
        }
        put(length);
        put(x.end(length));
        put(x.text(0, x.count(0) == 0 ? NONE : 0));
        put(x.fault(0));
        put(x.fault(1));
        town(x, 0);
    }
}
