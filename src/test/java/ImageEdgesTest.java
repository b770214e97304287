import java.util.Arrays;

/** Promises 1 and 31 to 33: a new object, how many, images, what is empty and what is full. */
public final class ImageEdgesTest {
    private static final int NONE = OneBack.NONE;
    private static final Check check = new Check("ImageEdgesTest");
    private static final String[] TEXTS = {"houses 6;has 5 4 9;needs 0 4 9;watch 5 9;passes 5 0;weight 4 9;worth 4 0;thief 9;thief 8;son 1 0;",
        "rate 5;catch 99;double 19;double 0;", "take 0 5 4;give 0 0 4;night;set 3 2 9;", "given 5 4;given 0 0;left 5 4 18;left 0 0 0;"};
    private static final String[] OTHERS = {"houses 2;has 0 0 1;needs 1 0 1;thief 1;passes 0 1;passes 1 0;", "rate 3;catch 1;double 5;",
        "take 0 0 0;give 0 1 0;", "given 1 0;left 0 0 0;left 1 0 1;"};

    /** A way to an object's state. */
    private interface Step {
        void on(OneBack x);
    }

    public static void main(String[] args) {
        newObject();
        counts();
        whichImages();
        pairsOfStates();
        imageAnew();
        againAndAgain();
        threeAtOnce();
        bytesOfTape();
        faults();
        check.finish();
    }

    private static void newObject() {
        OneBack x = new OneBack();
        for (int sort = -3; sort < 8; sort++) {
            check.same("count of sort " + sort, x.count(sort), sort >= 0 && sort < 4 ? 0 : -2);
        }
        for (int wild : new int[] {Integer.MIN_VALUE, 1 << 30, Integer.MAX_VALUE}) {
            check.same("count of sort " + wild, x.count(wild), -2);
        }
        for (int k = 0; k < 3; k++) {
            check.same("no image " + k, x.again(k), false);
        }
        check.row("FAULT", new int[] {x.fault(0), x.fault(1)}, 0, NONE);
        check.row("the tape is empty", new int[] {x.end(1), x.end(0), x.feed(0, 0, 0, 0, 0)}, NONE, 0, 20);
        // another object knows nothing of it
        OneBack y = new OneBack();
        Check.tell(x, 0, "houses 4;");
        x.image(0);
        check.row("another object", new int[] {y.count(0), y.again(0) ? 1 : 0, y.end(1)}, 0, 0, NONE);
    }

    private static void counts() {
        OneBack x = new OneBack();
        for (int k = 0; k < 3; k++) {
            for (int sort = 0; sort < 4; sort++) {
                check.same("a further one", Check.tell(x, sort, ""), k < 2 ? k : -2);
                for (int other = 0; other < 4; other++) {
                    check.same("count", x.count(other), Math.min(2, other <= sort ? k + 1 : k));
                }
            }
        }
    }

    /** "Image k (0 .. 2)", "false if there is none such" */
    private static void whichImages() {
        for (int k = -3; k < 6; k++) {
            OneBack x = new OneBack();
            boolean is = k >= 0 && k < 3;
            check.same("again(" + k + ") ahead of it", x.again(k), false);
            check.same("image(" + k + ")", x.image(k), is);
            for (int other = -3; other < 6; other++) {
                check.same("again(" + other + ") behind image(" + k + ")", x.again(other), is && other == k);
            }
            check.same("image(" + k + ") anew", x.image(k), is);
        }
        for (int k : new int[] {Integer.MIN_VALUE, -1000, 100, 1 << 30, Integer.MAX_VALUE}) {
            OneBack x = new OneBack();
            x.image(0);
            check.row("wild " + k, new int[] {x.image(k) ? 1 : 0, x.again(k) ? 1 : 0}, 0, 0);
        }
    }

    private static void nothing(OneBack x) {
        x.end(0);
    }

    /** One of each, no FAULT, an empty tape. */
    private static void one(OneBack x) {
        for (int sort = 0; sort < 4; sort++) {
            Check.tell(x, sort, x.count(sort) > 0 ? 0 : NONE, TEXTS[sort]);
        }
    }

    /** Two of each, a FAULT, a tape. */
    private static void two(OneBack x) {
        for (int k = 0; k < 2; k++) {
            for (int sort = 0; sort < 4; sort++) {
                Check.tell(x, sort, x.count(sort) > k ? k : NONE, OTHERS[sort]);
            }
        }
        Check.tell(x, 0, 0, "houses 0;");
        Check.feed(x, "houses 5;worth 3 3;");
    }

    private static void fault(OneBack x) {
        Check.tell(x, 2, x.count(2) > 0 ? 0 : NONE, "night;".repeat(41));
    }

    private static void longTape(OneBack x) {
        Check.feed(x, "worth 1 4;" + " ".repeat(580) + "worth 2 5;");
    }

    private static int[] seen(int kind, Step... steps) {
        OneBack x = new OneBack();
        for (Step step : steps) {
            step.on(x);
        }
        return Look.part(x, kind);
    }

    private static void alike(String name, int[] got, int[] due) {
        check.same(name, Arrays.equals(got, due), true);
    }

    /** From each state to each other one and back: all that is told, the tape and the FAULT are as they were. */
    private static void pairsOfStates() {
        Step[] all = {ImageEdgesTest::nothing, ImageEdgesTest::one, ImageEdgesTest::two, ImageEdgesTest::fault, ImageEdgesTest::longTape};
        for (int a = 0; a < all.length; a++) {
            for (int b = 0; b < all.length; b++) {
                Step first = all[a];
                Step then = all[b];
                for (int kind = 0; kind < 4; kind++) {
                    int[] old = seen(kind, first);
                    int[] now = seen(kind, first, then);
                    Step image0 = x -> x.image(0);
                    Step image2 = x -> x.image(2);
                    Step again0 = x -> x.again(0);
                    Step again2 = x -> x.again(2);
                    String name = a + " to " + b + ", " + kind;
                    alike("image changes nothing, " + name, seen(kind, first, image0), old);
                    alike("again, " + name, seen(kind, first, image0, then, again0), old);
                    alike("what came behind it, " + name, seen(kind, first, image0, then), now);
                    alike("again, and back, " + name, seen(kind, first, image0, then, image2, again0, again2), now);
                    alike("again, back and again, " + name, seen(kind, first, image0, then, image2, again0, again2, again0), old);
                    alike("image 0 behind it, " + name, seen(4 + kind, first, image0, then, image2, again2), old);
                    alike("image 2 behind it, " + name, seen(12 + kind, first, image0, then, image2, again0), now);
                    alike("image 1 is none, " + name, seen(8 + kind, first, image0, then, image2, again0), new int[] {0});
                }
            }
        }
    }

    /** An image is as it was when it was made last. */
    private static void imageAnew() {
        OneBack x = new OneBack();
        for (int houses = 1; houses <= 6; houses++) {
            Check.tell(x, 0, houses == 1 ? NONE : 0, "houses " + houses + ";");
            check.same("image anew", x.image(1), true);
            Check.tell(x, 0, 0, "houses " + (7 - houses) + ";");
            check.same("again", x.again(1), true);
            check.same("houses", x.town(0, 0), houses);
        }
        // the same image of what it has is no other
        x.again(1);
        x.image(1);
        x.again(1);
        check.same("houses", x.town(0, 0), 6);
    }

    /** What is told behind again() does not go into the image. */
    private static void againAndAgain() {
        OneBack x = new OneBack();
        for (int sort = 0; sort < 4; sort++) {
            Check.tell(x, sort, OTHERS[sort]);
        }
        x.image(0);
        for (int times = 0; times < 4; times++) {
            for (int sort = 0; sort < 4; sort++) {
                check.same("in the place of the first", Check.tell(x, sort, 0, ""), 0);
                check.same("a further one", Check.tell(x, sort, TEXTS[sort]), 1);
            }
            check.same("again", x.again(0), true);
            check.row("as before", new int[] {x.count(0), x.count(1), x.count(2), x.count(3), x.town(0, 0), x.house(0, 0, 0, 0),
                x.town(0, 1), x.law(0, 0), x.law(0, 15), x.deed(0, NONE, 0), x.deed(0, 1, 0), x.sight(0, 0), x.sight(0, 35)},
                1, 1, 1, 1, 2, 1, 1, 3, 1, 2, 1, 1, 1);
            check.row("no second", new int[] {x.town(1, 0), x.law(1, 0), x.deed(1, NONE, 0), x.sight(1, 0), x.stop(0, 0, 1)},
                -2, NONE, -2, -2, NONE);
        }
    }

    private static void threeAtOnce() {
        OneBack x = new OneBack();
        Check.tell(x, 0, "houses 1;");
        x.image(0);
        Check.tell(x, 0, 0, "houses 2;");
        x.image(1);
        Check.tell(x, 0, 0, "houses 3;");
        x.image(2);
        Check.tell(x, 0, 0, "houses 4;");
        for (int k : new int[] {2, 0, 1, 1, 2, 0, 2, 1, 0}) {
            check.same("again(" + k + ")", x.again(k), true);
            check.same("houses of image " + k, x.town(0, 0), k + 1);
        }
    }

    /** Of the tape each byte, from none to all 600. */
    private static void bytesOfTape() {
        for (int length : new int[] {0, 1, 9, 20, 580, 581, 599, 600}) {
            for (int at : new int[] {0, 1, length / 2, length - 1}) {
                if (at < 0 || at >= length) {
                    continue;
                }
                OneBack x = new OneBack();
                Check.feed(x, " ".repeat(at) + "?" + " ".repeat(length - at - 1));
                x.image(0);
                x.end(0);
                Check.feed(x, " ".repeat(600));
                x.again(0);
                check.same("no longer than " + length, x.end(length + 1), NONE);
                check.same("as long as " + length, x.end(length), length);
                check.same("a fault", x.text(0, NONE), NONE);
                check.row("at " + at, new int[] {x.fault(0), x.fault(1)}, 1, at);
            }
            OneBack x = new OneBack();
            Check.feed(x, " ".repeat(length));
            x.image(0);
            x.end(0);
            Check.feed(x, "?".repeat(600));
            x.again(0);
            check.row("blanks alone, " + length, new int[] {x.end(length + 1), x.end(length), x.text(0, NONE), x.fault(0)},
                NONE, length, 0, 0);
        }
    }

    private static void faults() {
        OneBack x = new OneBack();
        Check.tell(x, 0, "?");
        x.image(0);
        Check.tell(x, 0, " houses 7;");
        x.image(1);
        Check.tell(x, 0, "");
        x.image(2);
        int[][] due = {{1, 0}, {2, 8}, {0, NONE}};
        for (int k : new int[] {1, 0, 2, 0, 1, 2}) {
            x.again(k);
            check.row("FAULT of image " + k, new int[] {x.fault(0), x.fault(1)}, due[k]);
        }
        check.same("again(3) leaves it", x.again(3), false);
        check.row("FAULT", new int[] {x.fault(0), x.fault(1)}, 0, NONE);
    }
}
