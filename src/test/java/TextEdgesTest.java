import java.util.Random;

/** Terms 1 and promises 2 to 5: each sentence that names a case of its own, on both sides of its bound. */
public final class TextEdgesTest {
    private static final int NONE = OneBack.NONE;
    private static final Check check = new Check("TextEdgesTest");
    private static final String[] SAMPLE = {"houses 3;", "rate 3;", "night;", "given 1 1;"};

    public static void main(String[] args) {
        feed();
        bytesOfFeed();
        end();
        bytes();
        blanks();
        words();
        howManyNumbers();
        cutShort();
        digits();
        boundsOfNumbers();
        secondThief();
        asManyAsMayBe();
        whichFaultFirst();
        notThere();
        places();
        fullTape();
        slots();
        latestText();
        byChance();
        check.finish();
    }

    private static void as(int sort, String text) {
        PlainText due = PlainText.of(sort, text);
        check.fault(text, sort, due.fault, due.place);
    }

    /** "twenty bytes come behind it ..: how many it has. NONE, and nothing comes, if there would be more than 600." */
    private static void feed() {
        OneBack x = new OneBack();
        for (int n = 20; n <= 600; n += 20) {
            check.same("feed up to " + n, x.feed(0, 0, 0, 0, 0), n);
        }
        check.same("feed behind 600", x.feed(0, 0, 0, 0, 0), NONE);
        check.same("600 are there still", x.end(600), 600);
        for (int n = 599; n > 580; n--) {
            x.end(n);
            check.same("feed behind " + n, x.feed(0, 0, 0, 0, 0), NONE);
            check.same("no more than " + n, x.end(n + 1), NONE);
            check.same("no fewer than " + n, x.end(n), n);
        }
        x.end(580);
        check.same("feed behind 580", x.feed(0, 0, 0, 0, 0), 600);
        x.end(0);
        check.same("feed behind none", x.feed(-1, Integer.MIN_VALUE, Integer.MAX_VALUE, 1, 0), 20);
        x.end(1);
        check.same("feed behind one", x.feed(0, 0, 0, 0, 0), 21);
    }

    /** "of each number the highest first": each of the twenty places, told by a text whose letters they are. */
    private static void bytesOfFeed() {
        OneBack x = new OneBack();
        // "houses 4;houses 2;  "
        check.same("feed", x.feed(0x686f7573, 0x65732034, 0x3b686f75, 0x73657320, 0x323b2020), 20);
        check.same("text", x.text(0, NONE), 0);
        check.same("houses", x.town(0, 0), 2);
        for (int at = 0; at < 20; at++) {
            // a byte with which no text goes on, among blanks, also one whose sign bit is set
            for (int b : new int[] {1, 63, 128, 255}) {
                int[] row = {0x20202020, 0x20202020, 0x20202020, 0x20202020, 0x20202020};
                int shift = 24 - 8 * (at % 4);
                row[at / 4] = row[at / 4] & ~(255 << shift) | b << shift;
                x.feed(row[0], row[1], row[2], row[3], row[4]);
                check.same("byte " + b + " at " + at, x.text(0, 0), NONE);
                check.same("FAULT of byte " + b + " at " + at, x.fault(0), 1);
                check.same("place of byte " + b + " at " + at, x.fault(1), at);
            }
        }
    }

    /** "The tape has its first n bytes alone: n. NONE if it has not so many, or n is below 0." */
    private static void end() {
        String text = "houses 4;houses 5;houses 6;";
        for (int n = 0; n <= text.length(); n++) {
            OneBack x = new OneBack();
            Check.feed(x, text);
            check.same("one more than there are", x.end(text.length() + 1), NONE);
            check.same("below none", x.end(-1), NONE);
            check.same("end(" + n + ")", x.end(n), n);
            check.same("one more than " + n, x.end(n + 1), NONE);
            check.same("end(" + n + ") again", x.end(n), n);
            boolean whole = n % 9 == 0;
            check.same("its first " + n, x.text(0, NONE), whole ? 0 : NONE);
            check.same("houses of its first " + n, x.town(0, 0), whole ? n == 0 ? 3 : 3 + n / 9 : -2);
        }
        OneBack x = new OneBack();
        check.same("end(0) of none", x.end(0), 0);
        check.same("end(1) of none", x.end(1), NONE);
        // what was cut off does not come back
        Check.feed(x, "houses 4;houses 5;");
        x.end(9);
        check.same("what comes behind the end", Check.feed(x, "  "), 11);
        check.same("without what was cut off", x.text(0, NONE), 0);
        check.same("houses", x.town(0, 0), 4);
    }

    /** Every byte at each place of a line: blanks are 10 and 32 alone, words a .. z, digits 0 .. 9, and ; is one byte. */
    private static void bytes() {
        for (int b = 0; b < 256; b++) {
            String s = "" + (char) b;
            for (int sort = 0; sort < 4; sort++) {
                as(sort, s);
                as(sort, SAMPLE[sort] + s);
                as(sort, s + SAMPLE[sort]);
            }
            as(0, "houses" + s + "3;");
            as(0, "houses 3" + s + ";");
            as(0, "houses " + s + "3;");
            as(0, "hou" + s + "ses 3;");
            as(1, "catch 1" + s + ";");
            as(1, "catch " + s + ";");
            as(2, "night" + s);
            as(2, "take 0" + s + "0 0;");
            as(3, "left 0 0 1" + s + ";");
        }
        // by hand, as the second telling may be wrong, too
        check.fault("\n", 0, 0, NONE);
        check.fault(" ", 0, 0, NONE);
        check.fault("\t", 0, 1, 0);
        check.fault("\r", 0, 1, 0);
        check.fault("\u000b", 0, 1, 0);
        check.fault("\u001f", 0, 1, 0);
        check.fault("!", 0, 1, 0);
        check.fault("\u00a0", 0, 1, 0);
        check.fault("\u008a", 0, 1, 0);
        check.fault("night\u00bb", 2, 1, 5);
        check.fault("n\u00e9ight;", 2, 1, 0);
        check.fault("catch \u00b1;", 1, 1, 6);
    }

    /** "blanks (10, 32) between": none, one or many, ahead of all and behind all; but none within a token. */
    private static void blanks() {
        for (String blank : new String[] {"", " ", "\n", " \n", "\n ", "  ", "\n\n", " ".repeat(80), "\n".repeat(80)}) {
            String two = blank.isEmpty() ? " " : blank;
            check.fault(blank + "houses" + blank + "3" + blank + ";" + blank, 0, 0, NONE);
            check.fault("has" + blank + "0" + two + "0" + two + "0" + blank + ";" + blank + "thief" + blank + "1;", 0, 0, NONE);
            check.fault("night" + blank + ";" + blank + "night;" + blank, 2, 0, NONE);
            if (!blank.isEmpty()) {
                check.fault("hou" + blank + "ses 3;", 0, 1, 0);
                check.fault("catch 1" + blank + "2;", 1, 1, 7 + blank.length());
            }
        }
        check.fault("", 1, 0, NONE);
        check.fault("", 2, 0, NONE);
        check.fault("", 3, 0, NONE);
    }

    /** Words of a sort alone, whole, in small letters. */
    private static void words() {
        for (int of = 0; of < 4; of++) {
            for (String line : PlainText.LINES[of]) {
                String good = sample(line);
                String word = line.split(" ")[0];
                for (int sort = 0; sort < 4; sort++) {
                    check.fault(good, sort, sort == of ? 0 : 1, sort == of ? NONE : 0);
                }
                for (int i = 0; i < word.length(); i++) {
                    String less = good.substring(0, i) + good.substring(i + 1);
                    as(of, less);
                    as(of, good.substring(0, i) + (char) (good.charAt(i) + 1) + good.substring(i + 1));
                    as(of, good.substring(0, i) + (char) (good.charAt(i) - 32) + good.substring(i + 1));
                    as(of, good.substring(0, i) + "e" + good.substring(i));
                }
                check.fault(word + "s" + good.substring(word.length()), of, 1, 0);
                check.fault(word + word + good.substring(word.length()), of, 1, 0);
                check.fault(good + word.substring(0, word.length() - 1) + good.substring(word.length()), of, 1, good.length());
            }
        }
        check.fault("", 0, 0, NONE);
    }

    /** A line of numbers that may be, with all that it tells of there. */
    private static String sample(String line) {
        String[] parts = line.split(" ");
        if (parts[0].equals("son")) {
            return "son 0 1;thief 1;thief 1;";
        }
        StringBuilder s = new StringBuilder(parts[0]);
        for (int i = 1; i < parts.length; i++) {
            s.append(parts[0].equals("rate") ? " 2" : parts[0].equals("set") && i == 1 ? " 0" : " 1");
        }
        return s + ";";
    }

    /** Each word has as many numbers as told: with fewer no text goes on with ;, with more not with one more. */
    private static void howManyNumbers() {
        for (int sort = 0; sort < 4; sort++) {
            for (String line : PlainText.LINES[sort]) {
                String word = line.split(" ")[0];
                int due = line.split(" ").length - 1;
                for (int n = 0; n < 6; n++) {
                    String text = word + " 1".repeat(n);
                    if (n != due) {
                        check.fault(text + ";", sort, 1, n < due ? text.length() : word.length() + 1 + 2 * due);
                    }
                    check.fault(text, sort, 1, n <= due ? text.length() : word.length() + 1 + 2 * due);
                    check.fault(text + " x;", sort, 1, word.length() + 1 + 2 * Math.min(n, due));
                    check.fault(text + " " + word, sort, 1, word.length() + 1 + 2 * Math.min(n, due));
                }
                check.fault(word + ";;", sort, 1, due == 0 ? word.length() + 1 : word.length());
            }
        }
        check.fault(";", 0, 1, 0);
        check.fault("1;", 1, 1, 0);
    }

    /** The text breaks off: no text goes on with the end there. */
    private static void cutShort() {
        String[] texts = {"houses 2;has 0 0 1;needs 1 4 12;watch 1 9;passes 0 1;weight 1 1;worth 1 0;thief 3;thief 4;son 1 0;",
            "rate 3; catch 99;\ndouble 19;", "take 0 0 0; give 3 5 4;set 0 1 9;night ;", "given 0 0;left 5 4 18; given 5 4;"};
        for (int sort = 0; sort < 4; sort++) {
            for (int n = 0; n <= texts[sort].length(); n++) {
                as(sort, texts[sort].substring(0, n));
                as(sort, texts[sort].substring(n));
            }
        }
        check.fault("houses 2;has", 0, 1, 12);
        check.fault("houses 2;has ", 0, 1, 13);
        check.fault("houses 2;ha", 0, 1, 9);
        check.fault("houses 2;has 0 0 1", 0, 1, 18);
        check.fault("night", 2, 1, 5);
    }

    /** "NUMBERS, 1 or 2 digits", "a longer row of digits is no token". */
    private static void digits() {
        for (int n = 0; n < 10; n++) {
            check.fault("catch 0" + n + ";", 1, n == 0 ? 2 : 0, n == 0 ? 6 : NONE);
            check.fault("left 0 0 0" + n + ";", 3, 0, NONE);
        }
        OneBack x = new OneBack();
        Check.tell(x, 1, "rate 03;catch 07;double 09;");
        check.row("a naught ahead", new int[] {x.law(0, 0), x.law(0, 1), x.law(0, 19)}, 3, 7, 1);
        for (int n = 3; n < 40; n++) {
            check.fault("catch " + "0".repeat(n - 1) + "5;", 1, 1, 6);
            check.fault("catch " + "9".repeat(n) + ";", 1, 1, 6);
            check.fault("left 0 0 " + "1".repeat(n), 3, 1, 9);
        }
        check.fault("9".repeat(600), 0, 1, 0);
        check.fault("catch " + "1".repeat(594), 1, 1, 6);
        // also where no number may be
        check.fault("catch 1 111;", 1, 1, 8);
        check.fault("111", 1, 1, 0);
        // and ahead of a NUMBER that can't be
        check.fault("catch 0;catch 100;", 1, 1, 14);
    }

    /** Every number from 0 to 99 in every place of every line, with one and with two digits. */
    private static void boundsOfNumbers() {
        for (int sort = 0; sort < 4; sort++) {
            for (String line : PlainText.LINES[sort]) {
                int numbers = line.split(" ").length - 1;
                for (int i = 1; i <= numbers; i++) {
                    for (int n = 0; n < 100; n++) {
                        bound(sort, line, i, "" + n);
                        if (n < 10) {
                            bound(sort, line, i, "0" + n);
                        }
                    }
                }
            }
        }
    }

    private static void bound(int sort, String line, int at, String number) {
        String[] parts = line.split(" ");
        String ahead = sort > 0 ? "" : parts[0].equals("son") ? "thief 1;thief 1;thief 1;thief 1;"
            : parts[0].equals("houses") ? "" : "houses 6;";
        StringBuilder s = new StringBuilder(ahead + parts[0]);
        int place = 0;
        int n = Integer.parseInt(number);
        for (int i = 1; i < parts.length; i++) {
            s.append(" ");
            place = i == at ? s.length() : place;
            int other = Integer.parseInt(parts[i].split("-")[0]);
            // of son and set the other thief is another one
            if (parts[0].matches("son|set") && i < 3) {
                other = at == 3 ? i : n == 0 ? 1 : 0;
            }
            s.append(i == at ? number : "" + other);
        }
        int least = Integer.parseInt(parts[at].split("-")[0]);
        int most = Integer.parseInt(parts[at].split("-")[1]);
        boolean fine = n >= least && n <= most;
        check.fault(s + ";", sort, fine ? 0 : 2, fine ? NONE : place);
    }

    /** "of son, set the second THIEF, if it is the first". */
    private static void secondThief() {
        String four = "thief 1;thief 1;thief 1;thief 1;";
        for (int a = 0; a < 6; a++) {
            for (int b = 0; b < 6; b++) {
                boolean first = a > 3;
                boolean second = b > 3 || a == b;
                int fault = first || second ? 2 : 0;
                check.fault(four + "son " + a + " " + b + ";", 0, fault, first ? 36 : second ? 38 : NONE);
                check.fault("set " + a + " " + b + " 1;", 2, fault, first ? 4 : second ? 6 : NONE);
            }
        }
        check.fault("set 1 01 1;", 2, 2, 6);
        // of the others two like numbers are fine
        check.fault("passes 1 1;has 1 1 1;needs 1 1 1;watch 1 1;weight 1 1;worth 1 1;", 0, 0, NONE);
        check.fault("take 1 1 1;give 1 1 1;set 2 1 2;set 2 1 1;", 2, 0, NONE);
        check.fault("given 1 1;left 1 1 1;", 3, 0, NONE);
    }

    /** "3 a 5th THIEF, a 41st DEED, a 9th GIFT, at its first token." All else may come as often as there is room for. */
    private static void asManyAsMayBe() {
        check.fault("thief 1;".repeat(4), 0, 0, NONE);
        check.fault("thief 1;".repeat(4) + " \nthief 1;", 0, 3, 34);
        check.fault("thief 1;".repeat(75), 0, 3, 32);
        String[] deeds = {"take 0 0 0;", "give 0 0 0;", "set 0 1 1;", "night;"};
        for (String deed : deeds) {
            check.fault(deed.repeat(40), 2, 0, NONE);
            check.fault(deed.repeat(41), 2, 3, 40 * deed.length());
            check.fault("night;".repeat(40) + deed, 2, 3, 240);
            check.fault("night;".repeat(39) + deed, 2, 0, NONE);
            check.fault("night;".repeat(39) + deed + "night;", 2, 3, 234 + deed.length());
        }
        check.fault("given 5 4;".repeat(8), 3, 0, NONE);
        check.fault("given 5 4;".repeat(8) + "given 5 4;", 3, 3, 80);
        check.fault("given 5 4;".repeat(60), 3, 3, 80);
        check.fault("left 5 4 1;".repeat(54), 3, 0, NONE);
        check.fault("houses 5;".repeat(66), 0, 0, NONE);
        check.fault("has 0 0 1;".repeat(60), 0, 0, NONE);
        check.fault("double 3;".repeat(66), 1, 0, NONE);
        check.fault("rate 3;".repeat(85), 1, 0, NONE);
        check.fault("thief 1;thief 1;" + "son 0 1;".repeat(73), 0, 0, NONE);
    }

    /** "If there is none, the first by place", "a line with such a NUMBER tells its THIEF, DEED, GIFT all the same". */
    private static void whichFaultFirst() {
        // 1 ahead of 2, 3, 4, however late it is
        check.fault("houses 0;houses 7;houses", 0, 1, 24);
        check.fault("thief 1;".repeat(5) + ";", 0, 1, 40);
        check.fault("has 5 0 0;;", 0, 1, 10);
        check.fault("given 0 0;".repeat(9) + "night;", 3, 1, 90);
        // 2 and 3 by their places
        check.fault("houses 7;" + "thief 1;".repeat(5), 0, 2, 7);
        check.fault("thief 1;".repeat(5) + "houses 7;", 0, 3, 32);
        check.fault("thief 1;".repeat(4) + "houses 7;thief 1;", 0, 2, 39);
        check.fault("thief 1;".repeat(4) + "thief 10;", 0, 3, 32);
        check.fault("thief 0;".repeat(5), 0, 2, 6);
        check.fault("thief 1;thief 1;thief 1;thief 0;thief 1;", 0, 2, 30);
        check.fault("night;".repeat(40) + "set 0 0 0;", 2, 3, 240);
        check.fault("set 0 0 1;" + "night;".repeat(40), 2, 2, 6);
        check.fault("given 0 0;".repeat(8) + "given 6 5;", 3, 3, 80);
        check.fault("given 0 0;".repeat(8) + "left 6 5 19;given 0 0;", 3, 2, 85);
        // of one line the first number
        check.fault("has 6 5 10;", 0, 2, 4);
        check.fault("has 5 5 10;", 0, 2, 6);
        check.fault("has 5 4 10;", 0, 2, 8);
        check.fault("left 6 5 19;", 3, 2, 5);
        check.fault("take 4 6 5;", 2, 2, 5);
        check.fault("take 3 6 5;", 2, 2, 7);
        check.fault("take 3 5 5;", 2, 2, 9);
        // 4 if there is none of these
        check.fault("has 5 0 0;worth 0 10;", 0, 2, 18);
        check.fault("has 5 0 0;" + "thief 1;".repeat(5), 0, 3, 42);
        check.fault("son 3 2;" + "thief 1;".repeat(5), 0, 3, 40);
        check.fault("has 5 0 0;", 0, 4, 10);
    }

    /** "at the end's place: 4 of a TOWN a HOUSE or THIEF that was told of and is not there." */
    private static void notThere() {
        String[] lines = {"has % 0 0;", "needs % 4 9;", "watch % 0;", "passes % 0;", "passes 0 %;", "passes % %;"};
        for (String line : lines) {
            for (int houses = 1; houses <= 6; houses++) {
                for (int h = 0; h < 6; h++) {
                    String told = line.replace("%", "" + h);
                    String all = "houses " + houses + ";";
                    int fault = h < houses ? 0 : 4;
                    int length = told.length() + all.length();
                    check.fault(told + all, 0, fault, fault == 0 ? NONE : length);
                    check.fault(all + told + "  ", 0, fault, fault == 0 ? NONE : length + 2);
                }
            }
        }
        for (int thieves = 0; thieves <= 4; thieves++) {
            for (int a = 0; a < 4; a++) {
                for (int b = 0; b < 4; b++) {
                    String told = "son " + a + " " + b + ";" + "thief 1;".repeat(thieves);
                    if (a != b) {
                        boolean there = a < thieves && b < thieves;
                        check.fault(told, 0, there ? 0 : 4, there ? NONE : told.length());
                    }
                }
            }
        }
        // three houses, if nothing is told of them; told of stays told of, though a later line strikes it
        check.fault("watch 2 1;", 0, 0, NONE);
        check.fault("watch 3 1;", 0, 4, 10);
        check.fault("houses 6;watch 3 1;houses 3;", 0, 4, 28);
        check.fault("houses 3;watch 3 1;houses 4;", 0, 0, NONE);
        check.fault("passes 0 3;passes 0 1;", 0, 4, 22);
        check.fault("has 3 0 0;", 0, 4, 10);
        check.fault("thief 1;thief 1;son 0 2;son 0 1;", 0, 4, 32);
        // of the other sorts nothing of the kind
        check.fault("take 3 5 4;give 3 5 4;set 3 2 9;", 2, 0, NONE);
        check.fault("given 5 4;left 5 4 18;", 3, 0, NONE);
    }

    /** Places, "a token's first byte; the end's", from the first to the last of the tape. */
    private static void places() {
        for (int at = 0; at <= 591; at++) {
            String ahead = (at % 2 == 0 ? " " : "\n").repeat(at);
            OneBack x = new OneBack();
            Check.tell(x, 0, ahead + "houses 7;");
            check.same("2 at " + (at + 7), x.fault(1), at + 7);
            Check.tell(x, 0, ahead + "house 7;");
            check.same("1 at " + at, x.fault(1), at);
            Check.tell(x, 0, ahead + "houses 3");
            check.same("1 at the end, " + (at + 8), x.fault(1), at + 8);
            Check.tell(x, 0, ahead + "watch 3 ");
            check.same("1 at the end behind a blank", x.fault(1), at + 8);
            if (at <= 590) {
                Check.tell(x, 0, ahead + "watch 3 1;");
                check.same("4 at " + (at + 10), x.fault(1), at + 10);
            }
            if (at <= 550) {
                Check.tell(x, 0, ahead + "thief 1;".repeat(5));
                check.same("3 at " + (at + 32), x.fault(1), at + 32);
            }
        }
    }

    /** The tape is full: a text of 600 bytes is read to its last one. */
    private static void fullTape() {
        OneBack x = new OneBack();
        StringBuilder s = new StringBuilder("houses 6;");
        for (int cell = 0; s.length() < 570; cell = (cell + 1) % 30) {
            s.append("has " + cell / 5 + " " + cell % 5 + " " + (1 + s.length() % 9) + ";");
        }
        s.append(" ".repeat(600 - 9 - s.length())).append("worth 4 0;".substring(0, 9));
        check.same("600 bytes, ; left out", Check.tell(x, 0, s.toString()), NONE);
        check.row("FAULT", new int[] {x.fault(0), x.fault(1)}, 1, 600);
        String whole = s.substring(0, 590) + "worth 4 0;";
        check.same("600 bytes", whole.length(), 600);
        check.same("600 bytes are a town", Check.tell(x, 0, whole), 0);
        check.same("the last line is told", x.town(0, 44), 0);
        Plain.Place p = Plain.place(whole);
        for (int cell = 0; cell < 30; cell++) {
            check.same("has " + cell, x.house(0, cell / 5, cell % 5, 0), p.has[cell / 5][cell % 5]);
        }
        check.same("an empty tape again", x.feed(0, 0, 0, 0, 0), 20);
    }

    /** "TOWNS, at most 2 (sort 0) ..": a further one, in the place of one, as many as may be, none such, no such sort. */
    private static void slots() {
        for (int sort = 0; sort < 4; sort++) {
            OneBack x = new OneBack();
            for (int at : new int[] {0, 1, 2, -2}) {
                check.same("in the place of none such", Check.tell(x, sort, at, SAMPLE[sort]), -2);
                check.same("none yet", x.count(sort), 0);
            }
            check.same("the first", Check.tell(x, sort, NONE, SAMPLE[sort]), 0);
            check.same("one", x.count(sort), 1);
            check.same("the place of the second", Check.tell(x, sort, 1, SAMPLE[sort]), -2);
            check.same("the place of the first", Check.tell(x, sort, 0, SAMPLE[sort]), 0);
            check.same("one still", x.count(sort), 1);
            check.same("a fault is no further one", Check.tell(x, sort, NONE, "?"), NONE);
            check.same("one still", x.count(sort), 1);
            check.same("the second", Check.tell(x, sort, NONE, SAMPLE[sort]), 1);
            check.same("two", x.count(sort), 2);
            for (int at : new int[] {NONE, 2, 3, -2, Integer.MIN_VALUE, Integer.MAX_VALUE}) {
                check.same("a third at " + at, Check.tell(x, sort, at, SAMPLE[sort]), -2);
                check.same("two still", x.count(sort), 2);
            }
            check.same("the place of the first", Check.tell(x, sort, 0, SAMPLE[sort]), 0);
            check.same("the place of the second", Check.tell(x, sort, 1, SAMPLE[sort]), 1);
            for (int other = 0; other < 4; other++) {
                check.same("of other sorts none", x.count(other), other == sort ? 2 : 0);
            }
        }
    }

    /** "Of the latest text()": another call than text() and again() leaves the FAULT. */
    private static void latestText() {
        OneBack x = new OneBack();
        check.row("ahead of any text", new int[] {x.fault(0), x.fault(1)}, 0, NONE);
        Check.tell(x, 0, "  houses 9;");
        check.row("a fault", new int[] {x.fault(0), x.fault(1)}, 2, 9);
        check.row("another what", new int[] {x.fault(-1), x.fault(2), x.fault(3), x.fault(Integer.MIN_VALUE),
            x.fault(Integer.MAX_VALUE)}, NONE, NONE, NONE, NONE, NONE);
        x.feed(0, 0, 0, 0, 0);
        x.end(700);
        x.end(0);
        x.image(0);
        x.town(5, 5);
        check.row("it stays", new int[] {x.fault(0), x.fault(1)}, 2, 9);
        Check.tell(x, 0, "?");
        check.row("a place of 0", new int[] {x.fault(0), x.fault(1)}, 1, 0);
        Check.tell(x, 0, "houses 2;");
        check.row("without", new int[] {x.fault(0), x.fault(1)}, 0, NONE);
        Check.tell(x, 3, "left 0 0 19;");
        check.row("of another sort", new int[] {x.fault(0), x.fault(1)}, 2, 9);
        Check.tell(x, 0, 4, "houses 7;");
        check.row("behind -2", new int[] {x.fault(0), x.fault(1)}, 0, NONE);
    }

    /** Texts by chance, most lines as they may be, with numbers near their bounds. */
    private static void byChance() {
        Random random = new Random(33);
        String[] odd = {"", "", ";", " ", "x", "7", "100", "\n", "?", "has", "night", "1 1"};
        for (int k = 0; k < 12000; k++) {
            int sort = random.nextInt(4);
            StringBuilder s = new StringBuilder(sort == 0 && random.nextInt(3) > 0 ? "houses 6;thief 1;thief 2;thief 3;" : "");
            int lines = random.nextInt(sort == 2 && random.nextInt(3) == 0 ? 60 : 10);
            for (int i = 0; i < lines; i++) {
                String[] parts = PlainText.LINES[sort][random.nextInt(PlainText.LINES[sort].length)].split(" ");
                s.append(parts[0]);
                for (int n = 1; n < parts.length; n++) {
                    int least = Integer.parseInt(parts[n].split("-")[0]);
                    int most = Integer.parseInt(parts[n].split("-")[1]);
                    int wide = random.nextInt(12) == 0 ? 1 : 0;
                    s.append(" " + Math.min(99, Math.max(0, least - wide + random.nextInt(most - least + 1 + 2 * wide))));
                }
                s.append(random.nextInt(60) == 0 ? odd[random.nextInt(odd.length)] : ";");
            }
            as(sort, s.length() > 600 ? s.substring(0, 600) : s.toString());
        }
    }
}
