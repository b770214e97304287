/** Promises 1 to 5 and 31 to 33: the tape, texts with their faults, how many, images. */
public final class TapeTest {
    private static final int NONE = OneBack.NONE;
    private static final Check check = new Check("TapeTest");

    public static void main(String[] args) {
        newObject();
        tape();
        slots();
        taken();
        tokens();
        numbers();
        tooMany();
        notThere();
        images();
        check.finish();
    }

    private static void newObject() {
        OneBack x = new OneBack();
        check.same("NONE", NONE, -1);
        for (int sort = 0; sort < 4; sort++) {
            check.same("new count " + sort, x.count(sort), 0);
        }
        check.same("count(-1)", x.count(-1), -2);
        check.same("count(4)", x.count(4), -2);
        check.same("new end(0)", x.end(0), 0);
        check.same("new end(1)", x.end(1), NONE);
        check.same("new fault(0)", x.fault(0), 0);
        check.same("new fault(1)", x.fault(1), NONE);
        for (int k = -1; k < 4; k++) {
            check.same("new again " + k, x.again(k), false);
        }
    }

    private static void tape() {
        OneBack x = new OneBack();
        for (int i = 1; i <= 30; i++) {
            check.same("feed " + i, x.feed(0, 0, 0, 0, 0), 20 * i);
        }
        check.same("feed to 620", x.feed(0, 0, 0, 0, 0), NONE);
        check.same("end(601)", x.end(601), NONE);
        check.same("end(-1)", x.end(-1), NONE);
        check.same("end(581)", x.end(581), 581);
        check.same("feed to 601", x.feed(0, 0, 0, 0, 0), NONE);
        check.same("end(582)", x.end(582), NONE);
        check.same("end(580)", x.end(580), 580);
        check.same("feed to 600", x.feed(0, 0, 0, 0, 0), 600);
        x.end(0);
        // the highest byte of each number comes first: "rate", " 5 ;"
        x.feed('r' << 24 | 'a' << 16 | 't' << 8 | 'e', ' ' << 24 | '5' << 16 | ' ' << 8 | ';', 0, 0, 0);
        check.same("end(8)", x.end(8), 8);
        check.same("rate 5", x.text(1, NONE), 0);
        check.same("rate", x.law(0, 0), 5);
    }

    private static void slots() {
        OneBack x = new OneBack();
        String[] texts = {"houses 2;", "rate 3;", "night;", "given 1 1;"};
        for (int sort = 0; sort < 4; sort++) {
            check.same("in the place of none", Check.tell(x, sort, 0, texts[sort]), -2);
            check.same("none yet", x.count(sort), 0);
            check.same("first", Check.tell(x, sort, texts[sort]), 0);
            check.same("second is empty", x.text(sort, NONE), 1);
            check.same("a third", Check.tell(x, sort, texts[sort]), -2);
            check.same("place 2", x.text(sort, 2), -2);
            check.same("place -2", x.text(sort, -2), -2);
            check.same("in the place of the second", Check.tell(x, sort, 1, texts[sort]), 1);
            check.same("count", x.count(sort), 2);
            check.same("the tape is empty", x.end(1), NONE);
        }
        check.same("houses of the second", x.town(1, 0), 2);
        check.same("no such sort", x.text(4, NONE), -2);
        check.same("no such sort", x.text(-1, NONE), -2);
        check.same("a fault", Check.tell(x, 0, 1, "houses 5; houses 7;"), NONE);
        check.same("it stays as it was", x.town(1, 0), 2);
        check.same("fault", x.fault(0), 2);
        check.same("place", x.fault(1), 17);
        check.same("fault(2)", x.fault(2), NONE);
        check.same("fault(-1)", x.fault(-1), NONE);
        check.same("none such", x.text(0, 7), -2);
        check.same("fault 0 behind it", x.fault(0), 0);
        check.same("no place behind it", x.fault(1), NONE);
        Check.tell(x, 0, 1, "x");
        check.same("another fault", x.fault(0), 1);
        Check.tell(x, 0, 1, "");
        check.same("fault 0 behind a text without", x.fault(0), 0);
        check.same("no place behind a text without", x.fault(1), NONE);
        check.same("told anew, not further", x.town(1, 0), 3);
    }

    /** Every text() takes the tape: with a text read, with a FAULT, and in each case of -2. */
    private static void taken() {
        for (int sort = 0; sort < 4; sort++) {
            OneBack x = new OneBack();
            for (int at : new int[] {0, 1, 2, -2, Integer.MIN_VALUE, Integer.MAX_VALUE}) {
                takes(x, sort, at, "", -2);
                takes(x, sort, at, "?", -2);
            }
            takes(x, sort, NONE, "?", NONE);
            takes(x, sort, NONE, "", 0);
            takes(x, sort, 1, "", -2);
            takes(x, sort, NONE, "", 1);
            takes(x, sort, NONE, "", -2);
            takes(x, sort, NONE, "?", -2);
            takes(x, sort, 2, "?", -2);
            takes(x, sort, 0, "?", NONE);
            takes(x, sort, 0, "", 0);
        }
        OneBack x = new OneBack();
        Check.tell(x, 0, "houses 4;");
        for (int sort : new int[] {-2, -1, 4, 5, Integer.MIN_VALUE, Integer.MAX_VALUE}) {
            for (int at = -2; at <= 2; at++) {
                takes(x, sort, at, "?", -2);
            }
        }
        // what was on the tape is not there for a text behind it
        Check.tell(x, 4, NONE, "houses 5;");
        check.same("the tape of no such sort is gone", x.text(0, 0), 0);
        check.same("no houses of it", x.town(0, 0), 3);
    }

    /** A text with twenty blanks ahead of it is told: the answer, an empty tape behind it, and the FAULT. */
    private static void takes(OneBack x, int sort, int at, String text, int due) {
        String name = "text(" + sort + ", " + at + ") of '" + text + "'";
        check.same(name, Check.tell(x, sort, at, " ".repeat(20) + text), due);
        check.same(name + " leaves an empty tape", x.end(1), NONE);
        check.same(name + ", then feed", x.feed(0, 0, 0, 0, 0), 20);
        x.end(0);
        check.same(name + ", fault", x.fault(0), due == NONE ? 1 : 0);
        check.same(name + ", place", x.fault(1), due == NONE ? 20 : NONE);
    }

    private static void tokens() {
        check.fault("", 0, 0, NONE);
        check.fault(" \n ", 0, 0, NONE);
        check.fault("houses3;has 0 0 5;", 0, 0, NONE);
        check.fault("houses\n3 \n;", 0, 0, NONE);
        check.fault("houses 03;", 0, 0, NONE);
        check.fault("houses 003;", 0, 1, 7);
        check.fault("houses 3", 0, 1, 8);
        check.fault("houses 3  ", 0, 1, 10);
        check.fault("houses", 0, 1, 6);
        check.fault("house 3;", 0, 1, 0);
        check.fault("housess 3;", 0, 1, 0);
        check.fault("  Houses 3;", 0, 1, 2);
        // the first and the last letter go on with a word, their neighbours do not
        check.fault("hasa 0 0 1;", 0, 1, 0);
        check.fault("hasz 0 0 1;", 0, 1, 0);
        check.fault("has` 0 0 1;", 0, 1, 3);
        check.fault("has{ 0 0 1;", 0, 1, 3);
        check.fault("houses 3/;", 0, 1, 8);
        check.fault("houses 3:;", 0, 1, 8);
        check.fault("houses 9;", 0, 2, 7);
        check.fault("hous\tes 3;", 0, 1, 0);
        check.fault("houses\t3;", 0, 1, 6);
        check.fault("houses 3\r;", 0, 1, 8);
        check.fault("houses -3;", 0, 1, 7);
        check.fault("houses 3;;", 0, 1, 9);
        check.fault("houses 3 3;", 0, 1, 9);
        check.fault("houses three;", 0, 1, 7);
        check.fault("3;", 0, 1, 0);
        check.fault("has 0 0;", 0, 1, 7);
        check.fault("watch 0 0 0;", 0, 1, 10);
        check.fault("rate 2;", 0, 1, 0);
        check.fault("houses 2;", 1, 1, 0);
        check.fault("given 0 0;", 2, 1, 0);
        check.fault("give 0 0 0;", 3, 1, 0);
        check.fault("night 1;", 2, 1, 6);
        check.fault("houses 3;" + (char) 0xe4, 0, 1, 9);
        check.fault("houses 3;" + (char) 0, 0, 1, 9);
        // a full tape: its end is the end of all bytes there are
        check.fault("houses 4;" + " ".repeat(591), 0, 0, NONE);
        check.fault(" ".repeat(591) + "houses 4;", 0, 0, NONE);
        check.fault(" ".repeat(592) + "houses 4", 0, 1, 600);
        check.fault(" ".repeat(593) + "houses ", 0, 1, 600);
        check.fault(" ".repeat(594) + "houses", 0, 1, 600);
        check.fault(" ".repeat(590) + "has 3 0 1;", 0, 4, 600);
        check.fault("double 1;".repeat(66) + "rate 3", 1, 1, 600);
        // fault 1 comes ahead of the others, wherever it is
        check.fault("houses 9;has 0 0 99;?", 0, 1, 20);
        check.fault("thief 1;thief 1;thief 1;thief 1;thief 1;thief", 0, 1, 45);
        check.fault("has 5 0 1;?", 0, 1, 10);
    }

    private static void numbers() {
        String[] town = {"houses %;1;6", "has % 0 0;0;2", "has 0 % 0;0;4", "has 0 0 %;0;9",
            "needs % 0 0;0;2", "needs 0 % 0;0;4", "needs 0 0 %;0;9", "watch % 0;0;2", "watch 0 %;0;9",
            "passes % 0;0;2", "passes 0 %;0;2", "weight % 1;0;4", "weight 0 %;1;9", "worth % 0;0;4",
            "worth 0 %;0;9", "thief %;1;9"};
        for (String row : town) {
            bounds(0, row, 6);
        }
        bounds(1, "rate %;2;5", 0);
        bounds(1, "catch %;1;99", 0);
        bounds(1, "double %;0;19", 0);
        for (String word : new String[] {"take", "give"}) {
            bounds(2, word + " % 0 0;0;3", 0);
            bounds(2, word + " 0 % 0;0;5", 0);
            bounds(2, word + " 0 0 %;0;4", 0);
        }
        bounds(2, "set % 0 1;1;3", 0);
        bounds(2, "set 0 % 1;1;3", 0);
        bounds(2, "set 0 1 %;1;9", 0);
        bounds(3, "given % 0;0;5", 0);
        bounds(3, "given 0 %;0;4", 0);
        bounds(3, "left % 0 0;0;5", 0);
        bounds(3, "left 0 % 0;0;4", 0);
        bounds(3, "left 0 0 %;0;18", 0);
        String four = "thief 1;thief 1;thief 1;thief 1;";
        check.fault(four + "son 0 3;son 3 0;", 0, 0, NONE);
        check.fault(four + "son 0 0;", 0, 2, 38);
        check.fault(four + "son 0 4;", 0, 2, 38);
        check.fault(four + "son 4 4;", 0, 2, 36);
        check.fault("set 0 0 1;", 2, 2, 6);
        check.fault("set 2 2 0;", 2, 2, 6);
        check.fault("has 6 5 10;", 0, 2, 4);
        check.fault("has 0 5 10;houses 0;", 0, 2, 6);
    }

    /** A row: a line with % for the number; its least; its most; of houses that are not there, fault 4. */
    private static void bounds(int sort, String row, int houses) {
        String[] parts = row.split(";");
        int least = Integer.parseInt(parts[1]);
        int most = Integer.parseInt(parts[2]);
        boolean isHouse = sort == 0 && most == 2;
        for (int n = 0; n < 100; n++) {
            String line = parts[0].replace("%", "" + n) + ";";
            if (n >= least && n <= most) {
                check.fault(line, sort, 0, NONE);
            } else if (isHouse && n < houses) {
                check.fault(line, sort, 4, line.length());
            } else {
                // a set's two thieves alike are told of at the second one
                int at = line.startsWith("set 0 0") ? 6 : parts[0].indexOf('%');
                check.fault(line, sort, 2, at);
            }
        }
    }

    private static void tooMany() {
        check.fault("thief 1;".repeat(4), 0, 0, NONE);
        check.fault("thief 1;".repeat(5), 0, 3, 32);
        check.fault("thief 1;".repeat(6), 0, 3, 32);
        check.fault("thief 1;".repeat(4) + "thief 0;", 0, 3, 32);
        check.fault("thief 1;".repeat(3) + "thief 0;thief 1;", 0, 2, 30);
        check.fault("thief 1;".repeat(4) + "has 5 0 1;thief 1;", 0, 3, 42);
        check.fault("night;".repeat(40), 2, 0, NONE);
        check.fault("night;".repeat(41), 2, 3, 240);
        check.fault("night;".repeat(40) + "take 9 0 0;", 2, 3, 240);
        check.fault("night;".repeat(39) + "take 9 0 0;night;", 2, 2, 239);
        check.fault("given 0 0;".repeat(8) + "left 0 0 1;", 3, 0, NONE);
        check.fault("given 0 0;".repeat(9), 3, 3, 80);
        check.fault("given 0 0;".repeat(7) + "left 0 0 1;given 0 0;given 6 0;", 3, 3, 91);
        check.fault("double 1;".repeat(30), 1, 0, NONE);
    }

    private static void notThere() {
        check.fault("has 3 0 1;", 0, 4, 10);
        check.fault("houses 4;has 3 0 1;", 0, 0, NONE);
        check.fault("has 3 0 1;houses 4;", 0, 0, NONE);
        check.fault("houses 4;has 3 0 1;houses 3;", 0, 4, 28);
        check.fault("needs 5 0 0;\n", 0, 4, 13);
        check.fault("watch 3 0;", 0, 4, 10);
        check.fault("passes 3 0;", 0, 4, 11);
        check.fault("passes 0 3;", 0, 4, 11);
        check.fault("passes 0 3;passes 0 0;", 0, 4, 22);
        check.fault("son 0 1;", 0, 4, 8);
        check.fault("thief 1;son 0 1;", 0, 4, 16);
        check.fault("son 0 1;thief 1;thief 1;", 0, 0, NONE);
        check.fault("thief 1;son 1 0;", 0, 4, 16);
        check.fault("has 3 0 1;weight 0 0;", 0, 2, 19);
    }

    private static void images() {
        OneBack x = new OneBack();
        check.same("image(-1)", x.image(-1), false);
        check.same("image(3)", x.image(3), false);
        check.same("image(0)", x.image(0), true);
        Check.tell(x, 0, "houses 2;has 0 0 7;thief 3;");
        Check.tell(x, 1, "rate 4;double 3;");
        Check.tell(x, 2, "take 0 0 0;");
        Check.tell(x, 3, "given 1 1;left 0 0 3;");
        Check.tell(x, 0, "houses 7;");
        Check.feed(x, "abc");
        check.same("image(1)", x.image(1), true);
        Check.feed(x, "defg");
        x.end(0);
        Check.tell(x, 0, 0, "houses 6;");
        Check.tell(x, 1, 0, "");
        Check.tell(x, 2, 0, "night;night;");
        Check.tell(x, 3, "");
        Check.tell(x, 3, 0, "");
        check.same("image(2)", x.image(2), true);
        check.same("again(0)", x.again(0), true);
        for (int sort = 0; sort < 4; sort++) {
            check.same("count at first", x.count(sort), 0);
        }
        check.same("image 0 has no fault", x.fault(0), 0);
        check.same("again(1)", x.again(1), true);
        told(x);
        check.same("again(2)", x.again(2), true);
        check.same("houses of image 2", x.town(0, 0), 6);
        check.same("deeds of image 2", x.deed(0, NONE, 0), 2);
        check.same("sights of image 2", x.count(3), 2);
        check.same("again(1), a second time", x.again(1), true);
        told(x);
        check.same("image(2) anew", x.image(2), true);
        Check.tell(x, 0, 0, "houses 1;");
        check.same("again(2) anew", x.again(2), true);
        told(x);
        check.same("again(3)", x.again(3), false);
        check.same("again(-1)", x.again(-1), false);
    }

    private static void told(OneBack x) {
        check.same("image: fault", x.fault(0), 2);
        check.same("image: place", x.fault(1), 7);
        check.same("image: houses", x.town(0, 0), 2);
        check.same("image: has", x.house(0, 0, 0, 0), 7);
        check.same("image: thief", x.town(0, 50), 3);
        check.same("image: rate", x.law(0, 0), 4);
        check.same("image: double", x.law(0, 13), 1);
        check.same("image: deeds", x.deed(0, NONE, 0), 1);
        check.same("image: gifts", x.sight(0, 0), 1);
        check.same("image: left", x.sight(0, 30), 3);
        check.same("image: sights", x.count(3), 1);
        check.same("image: tape", x.end(4), NONE);
        check.same("image: tape", x.end(3), 3);
        // the bytes are there, too: a text of them has its fault at its first token
        x.image(0);
        check.same("image: bytes", x.text(0, NONE), NONE);
        check.same("image: bytes", x.fault(0), 1);
        check.same("image: bytes", x.fault(1), 0);
        x.again(0);
    }
}
