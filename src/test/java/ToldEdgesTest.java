/**
 * Terms 1 as promises 6 to 9 and 17 answer them: what there is at first, the least and the most of each
 * number in each place, and every what on both sides of its bounds.
 */
public final class ToldEdgesTest {
    private static final int NONE = OneBack.NONE;
    private static final int[] WILD = {Integer.MIN_VALUE, Integer.MIN_VALUE + 1, -1000, -2, -1, 100, 1000, 1 << 16, 1 << 30,
        Integer.MAX_VALUE - 1, Integer.MAX_VALUE};
    private static final Check check = new Check("ToldEdgesTest");

    public static void main(String[] args) {
        townAtFirst();
        housesAndThieves();
        numbersOfTown();
        hasAndNeeds();
        spareAndLacks();
        fathers();
        laws();
        doubleNights();
        deeds();
        howManyDeeds();
        gifts();
        left();
        laterOnesStrike();
        secondOnes();
        lastCall();
        check.finish();
    }

    /** An empty text: all is as at first. */
    private static void townAtFirst() {
        Source s = Source.of("", "", "", "");
        check.same("3 houses at first", s.on().town(0, 0), 3);
        check.same("no thieves at first", s.on().town(0, 1), 0);
        for (int h = 0; h < 3; h++) {
            check.same("not watched at first", s.on().town(0, 10 + h), 0);
            check.same("to itself at first", s.on().town(0, 20 + h), h);
            for (int g = 0; g < 5; g++) {
                for (int what = 0; what < 4; what++) {
                    check.same("nothing had or needed at first", s.on().house(0, h, g, what), 0);
                }
            }
        }
        for (int g = 0; g < 5; g++) {
            check.same("weight at first", s.on().town(0, 30 + g), 1);
            check.same("worth at first", s.on().town(0, 40 + g), 1);
        }
        check.same("rate at first", s.on().law(0, 0), 2);
        check.same("catch at first", s.on().law(0, 1), 20);
        for (int night = 0; night < 20; night++) {
            check.same("no double night at first", s.on().law(0, 10 + night), 0);
        }
        check.same("no deeds at first", s.on().deed(0, NONE, 0), 0);
        check.same("no gifts at first", s.on().sight(0, 0), 0);
        for (int cell = 0; cell < 30; cell++) {
            check.same("nothing told of left at first", s.on().sight(0, 30 + cell), NONE);
        }
    }

    private static String thieves(int n) {
        return "thief 1;".repeat(n);
    }

    /** As many houses and thieves as there are, and no others: of every what. */
    private static void housesAndThieves() {
        for (int houses = 1; houses <= 6; houses++) {
            for (int thieves = 0; thieves <= 4; thieves++) {
                Source s = Source.of("houses " + houses + ";" + thieves(thieves));
                for (int what = -30; what < 120; what++) {
                    check.same("town " + what, s.on().town(0, what), townWhat(what, houses, thieves));
                }
                for (int what : WILD) {
                    check.same("town " + what, s.on().town(0, what), -2);
                }
            }
        }
        for (int houses = 1; houses <= 6; houses++) {
            Source s = Source.of("houses " + houses + ";");
            for (int h = -3; h < 9; h++) {
                for (int g = -3; g < 8; g++) {
                    for (int what = -3; what < 7; what++) {
                        boolean is = h >= 0 && h < houses && g >= 0 && g < 5 && what >= 0 && what < 4;
                        check.same("house", s.on().house(0, h, g, what), is ? 0 : NONE);
                    }
                }
            }
            for (int wild : WILD) {
                check.row("wild house", new int[] {s.on().house(0, wild, 0, 0), s.on().house(0, 0, wild, 0),
                    s.on().house(0, 0, 0, wild)}, NONE, NONE, NONE);
            }
        }
    }

    private static int townWhat(int what, int houses, int thieves) {
        int at = Math.floorMod(what, 10);
        return switch (Math.floorDiv(what, 10)) {
            case 0 -> at == 0 ? houses : at == 1 ? thieves : -2;
            case 1 -> at < houses ? 0 : -2;
            case 2 -> at < houses ? at : -2;
            case 3, 4 -> at < 5 ? 1 : -2;
            case 5 -> at < thieves ? 1 : -2;
            case 6 -> at < thieves ? NONE : -2;
            default -> -2;
        };
    }

    /** Each number of a town from its least to its most, told of one place: it is there, and the others are as at first. */
    private static void numbersOfTown() {
        rowOf("watch", 10, 6, 0, 9, 0);
        rowOf("weight", 30, 5, 1, 9, 1);
        rowOf("worth", 40, 5, 0, 9, 1);
        for (int a = 0; a < 6; a++) {
            for (int b = 0; b < 6; b++) {
                Source s = Source.of("houses 6;passes " + a + " " + b + ";");
                for (int h = 0; h < 6; h++) {
                    check.same("passes", s.on().town(0, 20 + h), h == a ? b : h);
                }
            }
        }
        for (int at = 0; at < 4; at++) {
            for (int limit = 1; limit <= 9; limit++) {
                StringBuilder text = new StringBuilder();
                for (int t = 0; t < 4; t++) {
                    text.append("thief " + (t == at ? limit : 5) + ";");
                }
                Source s = Source.of(text.toString());
                for (int t = 0; t < 4; t++) {
                    check.same("limit", s.on().town(0, 50 + t), t == at ? limit : 5);
                }
            }
        }
        for (int houses = 1; houses <= 6; houses++) {
            check.same("houses", Source.of("houses " + houses + ";").on().town(0, 0), houses);
        }
    }

    private static void rowOf(String word, int what, int places, int least, int most, int atFirst) {
        for (int at = 0; at < places; at++) {
            for (int n = least; n <= most; n++) {
                Source s = Source.of("houses 6;" + word + " " + at + " " + n + ";");
                for (int other = 0; other < places; other++) {
                    check.same(word, s.on().town(0, what + other), other == at ? n : atFirst);
                }
            }
        }
    }

    private static void hasAndNeeds() {
        String[] words = {"has", "needs"};
        for (int cell = 0; cell < 30; cell++) {
            for (int n : new int[] {0, 1, 9}) {
                for (int what = 0; what < 2; what++) {
                    Source s = Source.of("houses 6;" + words[what] + " " + cell / 5 + " " + cell % 5 + " " + n + ";");
                    for (int other = 0; other < 30; other++) {
                        int due = other == cell ? n : 0;
                        check.same(words[what], s.on().house(0, other / 5, other % 5, what), due);
                        check.same("not " + words[what], s.on().house(0, other / 5, other % 5, 1 - what), 0);
                    }
                }
            }
        }
    }

    /** "SPARE ..: HAS less NEEDS, if above 0", "LACKS .. (NEEDS more than it HAS)": all that can be. */
    private static void spareAndLacks() {
        for (int has = 0; has <= 9; has++) {
            for (int needs = 0; needs <= 9; needs++) {
                Source s = Source.of("has 2 4 " + has + ";needs 2 4 " + needs + ";");
                check.row("has " + has + ", needs " + needs, new int[] {s.on().house(0, 2, 4, 0), s.on().house(0, 2, 4, 1),
                    s.on().house(0, 2, 4, 2), s.on().house(0, 2, 4, 3)}, has, needs, has > needs ? has - needs : 0,
                    needs > has ? needs - has : 0);
            }
        }
    }

    /** "a FATHER, another THIEF, or none": each of each; two may be each other's. */
    private static void fathers() {
        for (int a = 0; a < 4; a++) {
            for (int b = 0; b < 4; b++) {
                if (a != b) {
                    Source s = Source.of(thieves(4) + "son " + a + " " + b + ";");
                    for (int t = 0; t < 4; t++) {
                        check.same("father", s.on().town(0, 60 + t), t == a ? b : NONE);
                    }
                }
            }
        }
        Source s = Source.of("son 0 1;son 1 0;thief 1;thief 1;");
        check.row("fathers of each other", new int[] {s.on().town(0, 60), s.on().town(0, 61)}, 1, 0);
    }

    private static void laws() {
        for (int rate = 2; rate <= 5; rate++) {
            Source s = Source.of("", "rate " + rate + ";");
            check.row("rate", new int[] {s.on().law(0, 0), s.on().law(0, 1)}, rate, 20);
        }
        for (int n = 1; n <= 99; n++) {
            Source s = Source.of("", "catch " + n + ";");
            check.row("catch", new int[] {s.on().law(0, 0), s.on().law(0, 1)}, 2, n);
        }
        Source s = Source.of("", "double 0;double 19;");
        for (int what = -30; what < 60; what++) {
            int due = what == 0 ? 2 : what == 1 ? 20 : what == 10 || what == 29 ? 1 : what > 9 && what < 30 ? 0 : NONE;
            check.same("law " + what, s.on().law(0, what), due);
        }
        for (int what : WILD) {
            check.same("law " + what, s.on().law(0, what), NONE);
        }
    }

    private static void doubleNights() {
        for (int night = 0; night < 20; night++) {
            Source s = Source.of("", "double " + night + ";double " + night + ";");
            for (int n = 0; n < 20; n++) {
                check.same("double " + night, s.on().law(0, 10 + n), n == night ? 1 : 0);
            }
        }
        StringBuilder all = new StringBuilder();
        for (int night = 0; night < 20; night++) {
            all.append("double " + night + ";");
        }
        Source s = Source.of("", all.toString());
        for (int n = 0; n < 20; n++) {
            check.same("all double", s.on().law(0, 10 + n), 1);
        }
    }

    private static void deeds() {
        Source s = Source.of("", "", "take 0 0 0;take 3 5 4;give 0 0 0;give 3 5 4;set 0 1 1;set 3 2 9;night;");
        int[][] due = {{0, 0, 0, 0}, {0, 3, 5, 4}, {1, 0, 0, 0}, {1, 3, 5, 4}, {2, 0, 1, 1}, {2, 3, 2, 9},
            {3, NONE, NONE, NONE}};
        for (int k = -4; k < 12; k++) {
            for (int what = -4; what < 9; what++) {
                boolean is = k >= 0 && k < due.length && what >= 0 && what < 4;
                boolean all = k == NONE && what == 0;
                check.same("deed " + k + " " + what, s.on().deed(0, k, what), is ? due[k][what] : all ? due.length : -2);
            }
        }
        for (int wild : WILD) {
            check.same("wild what", s.on().deed(0, 0, wild), -2);
            check.same("wild what of all", s.on().deed(0, NONE, wild), -2);
            if (wild != NONE) {
                check.same("wild deed", s.on().deed(0, wild, 0), -2);
            }
        }
    }

    /** From none to as many as may be. */
    private static void howManyDeeds() {
        for (int n = 0; n <= 40; n++) {
            Source s = Source.of("", "", "night;".repeat(n));
            check.same("how many", s.on().deed(0, NONE, 0), n);
            for (int k = 0; k < 43; k++) {
                check.same("deed " + k + " of " + n, s.on().deed(0, k, 0), k < n ? 3 : -2);
                check.same("no number of deed " + k + " of " + n, s.on().deed(0, k, 1), k < n ? NONE : -2);
            }
        }
        Source s = Source.of("", "", "night;".repeat(39) + "take 3 5 4;");
        check.row("the last", new int[] {s.on().deed(0, 38, 0), s.on().deed(0, 39, 0), s.on().deed(0, 39, 1),
            s.on().deed(0, 39, 2), s.on().deed(0, 39, 3), s.on().deed(0, 40, 0)}, 3, 0, 3, 5, 4, -2);
    }

    private static void gifts() {
        for (int n = 0; n <= 8; n++) {
            StringBuilder text = new StringBuilder();
            for (int k = 0; k < n; k++) {
                text.append("given " + (5 - k % 6) + " " + (4 - k % 5) + ";");
            }
            Source s = Source.of("", "", "", text.toString());
            for (int what = -30; what < 90; what++) {
                int due = what == 0 ? n : what >= 10 && what < 10 + n ? 5 - (what - 10) % 6
                    : what >= 20 && what < 20 + n ? 4 - (what - 20) % 5 : what >= 30 && what < 60 ? NONE : -2;
                check.same("sight " + what + " of " + n, s.on().sight(0, what), due);
            }
            for (int what : WILD) {
                check.same("wild sight", s.on().sight(0, what), -2);
            }
        }
    }

    /** LEFT of each house and good, those that no town has among them: 0 is told, too, and is not NONE. */
    private static void left() {
        for (int cell = 0; cell < 30; cell++) {
            for (int n : new int[] {0, 1, 9, 10, 18}) {
                Source s = Source.of("", "", "", "left " + cell / 5 + " " + cell % 5 + " " + n + ";");
                for (int other = 0; other < 30; other++) {
                    check.same("left", s.on().sight(0, 30 + other), other == cell ? n : NONE);
                }
                check.same("no gift", s.on().sight(0, 0), 0);
            }
        }
    }

    /** "Later ones strike, but THIEVES, DOUBLE nights, DEEDS, GIFTS, which are further ones." */
    private static void laterOnesStrike() {
        Source s = Source.of("houses 6;houses 4;has 3 4 9;has 3 4 0;needs 3 4 1;needs 3 4 9;watch 3 9;watch 3 0;passes 3 0;"
            + "passes 3 1;weight 4 9;weight 4 1;worth 4 0;worth 4 9;son 0 1;son 0 2;thief 7;thief 7;thief 8;",
            "rate 5;rate 2;catch 1;catch 20;double 4;double 5;double 4;", "night;night;take 0 0 0;take 0 0 0;",
            "left 5 4 18;left 5 4 0;left 5 3 0;left 5 3 18;given 0 0;given 0 0;given 0 1;");
        check.row("a town", new int[] {s.on().town(0, 0), s.on().house(0, 3, 4, 0), s.on().house(0, 3, 4, 1),
            s.on().town(0, 13), s.on().town(0, 23), s.on().town(0, 34), s.on().town(0, 44), s.on().town(0, 60)},
            4, 0, 9, 0, 1, 1, 9, 2);
        check.row("thieves", new int[] {s.on().town(0, 1), s.on().town(0, 50), s.on().town(0, 51), s.on().town(0, 52),
            s.on().town(0, 53)}, 3, 7, 7, 8, -2);
        check.row("a law", new int[] {s.on().law(0, 0), s.on().law(0, 1), s.on().law(0, 14), s.on().law(0, 15),
            s.on().law(0, 16)}, 2, 20, 1, 1, 0);
        check.row("deeds", new int[] {s.on().deed(0, NONE, 0), s.on().deed(0, 1, 0), s.on().deed(0, 2, 0)}, 4, 3, 0);
        check.row("a sight", new int[] {s.on().sight(0, 59), s.on().sight(0, 58), s.on().sight(0, 0), s.on().sight(0, 22)},
            0, 18, 3, 1);
    }

    /** The first and the second of each sort are apart; one in the place of another begins anew. */
    private static void secondOnes() {
        OneBack x = new OneBack();
        String[] full = {"houses 6;has 5 4 9;needs 0 0 9;watch 0 9;passes 0 5;weight 0 9;worth 0 9;thief 9;thief 8;son 0 1;",
            "rate 5;catch 99;double 0;double 19;", "take 1 2 3;night;", "given 1 2;left 5 4 18;"};
        for (int sort = 0; sort < 4; sort++) {
            Check.tell(x, sort, full[sort]);
            Check.tell(x, sort, "");
        }
        for (int k = 0; k < 2; k++) {
            boolean is = k == 0;
            String name = is ? "the first" : "the second";
            check.row(name, new int[] {x.town(k, 0), x.town(k, 1), x.town(k, 10), x.town(k, 20), x.town(k, 30), x.town(k, 40),
                x.house(k, 0, 0, 1), x.house(k, 5, 4, 0), x.law(k, 0), x.law(k, 1), x.law(k, 10), x.law(k, 29),
                x.deed(k, NONE, 0), x.sight(k, 0), x.sight(k, 59)},
                is ? new int[] {6, 2, 9, 5, 9, 9, 9, 9, 5, 99, 1, 1, 2, 1, 18}
                    : new int[] {3, 0, 0, 0, 1, 1, 0, NONE, 2, 20, 0, 0, 0, 0, NONE});
        }
        for (int sort = 0; sort < 4; sort++) {
            Check.tell(x, sort, 1, full[sort]);
            Check.tell(x, sort, 0, "");
        }
        check.row("the first anew", new int[] {x.town(0, 0), x.town(0, 1), x.town(0, 50), x.town(0, 10), x.town(0, 20),
            x.town(0, 30), x.town(0, 40), x.house(0, 0, 0, 1), x.law(0, 0), x.law(0, 1), x.law(0, 10), x.deed(0, NONE, 0),
            x.deed(0, 0, 0), x.sight(0, 0), x.sight(0, 10), x.sight(0, 59)},
            3, 0, -2, 0, 0, 1, 1, 0, 2, 20, 0, 0, -2, 0, -2, NONE);
        check.row("the second anew", new int[] {x.town(1, 0), x.town(1, 60), x.house(1, 5, 4, 0), x.law(1, 29),
            x.deed(1, 0, 3), x.sight(1, 20), x.sight(1, 59)}, 6, 1, 9, 1, 3, 2, 18);
        // what was told of six houses and two thieves is not there behind it
        Check.tell(x, 0, 0, "houses 6;thief 1;thief 1;");
        check.row("nothing of before", new int[] {x.house(0, 5, 4, 0), x.town(0, 60), x.town(0, 50), x.town(0, 25)},
            0, NONE, 1, 5);
    }

    /** "An object is used for at most 512 calls": the 512th is as good as the first. */
    private static void lastCall() {
        OneBack x = new OneBack();
        x.feed(0x686f7573, 0x65732034, 0x3b202020, 0x20202020, 0x20202020);
        x.text(0, NONE);
        for (int call = 3; call <= 512; call++) {
            check.same("call " + call, x.town(0, 0), 4);
        }
        OneBack y = new OneBack();
        for (int call = 1; call <= 511; call += 2) {
            y.feed(0x686f7573, 0x65732034, 0x3b202020, 0x20202020, 0x20202020);
            check.same("text of call " + (call + 1), y.text(0, call == 1 ? NONE : 0), 0);
        }
    }
}
