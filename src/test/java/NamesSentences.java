/** The document's sentences on names: judged, taken, free, of a day, hopes, days without; promises 11 to 20. */
final class NamesSentences extends Sentences {
    private static final int[] NO_PERSONS = {-1, 6, 16, 32, HUGE, LOW};
    private static final long[] NO_CODES = {0, -1, 27, 54, 729, 730, 756, 7625597484987L, 7625597484988L, 7625597484986L * 27 + 1,
        Long.MAX_VALUE, Long.MIN_VALUE, LOW};
    private static final String TEN_LIKE = "letter a 1;letter b 1;letter c 1;letter d 1;letter e 1;letter f 1;letter g 1;letter h 1";

    private NamesSentences() {
    }

    static void all() {
        section("Terms");
        judged();
        namesOfDay();
        hopesOfTwo();
        daysWithout();
        sum();
        name();
        judgeAndTaker();
        names();
        which();
        free();
        hopes();
        without();
        mend();
    }

    private static void judges(SumNames x, int... due) {
        for (int p = 0; p < due.length; p++) {
            due("judge(" + p + ")", x.judge(p), due[p]);
        }
    }

    /** 1000 names of day 3, as ten letters are 1. */
    private static SumNames thousand() {
        return with(TEN_LIKE, "letter i 1;letter j 1;syl a;syl b;syl c;syl d;syl e;syl f", "syl g;syl h;syl i;syl j");
    }

    private static void judged() {
        sentence("JUDGED: what is wrong with a PERSON, of several the first:", () -> {
            // all near one another: called nothing, like 3; no name, a wrong sum, called like 3; a name, a wrong sum, called like 5
            SumNames x = with("degrees 2;syl a;first 9 -;first 9 c;child 0 1 9 -;child 0 1 9 c;child 0 1 9 a;child 0 1 9 a");
            judges(x, 1, 2, 1, 2, 3, 3);
            tell(x, "letter a 9");
            judges(x, 1, 2, 1, 2, 4, 4);
        });
        sentence("1 it is CALLED nothing,", () -> {
            SumNames x = with("syl a;first 1 -;first 1 a;child 0 1 1 -");
            judges(x, 1, 0, 1);
            tell(x, "call 0 aaa;call 1 -");
            judges(x, 3, 1, 1);
        });
        sentence("2 by what is no NAME,", () -> {
            SumNames x = with("syl a;syl ab;first 4 aaaa;first 2 b;first 7 aba;first 3 ab;first 9 ababab;first 10 abababa");
            judges(x, 2, 2, 3, 0, 0, 2);
            tell(x, "letter b 0;first 1 ab");
            judges(x, 2, 2, 2, 2, 2, 2, 2);
            judges(with("first 1 a"), 2);
        });
        sentence("3 by a NAME whose SUM is not its DAY,", () -> {
            judges(with("syl ab;first 2 ab;first 3 ab;first 4 ab;first 6 ab;first 6 abab"), 3, 0, 3, 3, 0);
            judges(with("letter z 99;letter y 4;syl zz;syl y;first 400 zzzzy;first 399 zzzzy;first 400 zzzzzz"), 0, 3, 3);
        });
        sentence("4 by one that is TAKEN: by the least PERSON NEAR it that is CALLED likewise;", () -> {
            // from 7: 8 and 10 are one step away, 5 and 9 two, 6 and 12 three, 3 and 11 four
            SumNames x = row();
            tell(x, "syl a;call 7 a;call 3 a;call 11 a;call 12 a;degrees 2");
            due("judge(7), the others are 3 steps and more away", x.judge(7), 0);
            due("taker(7)", x.taker(7), NONE);
            tell(x, "degrees 3");
            due("judge(7), 12 is 3 steps away", x.judge(7), 4);
            due("taker(7)", x.taker(7), 12);
            tell(x, "degrees 4");
            due("taker(7), the least of 3, 11, 12", x.taker(7), 3);
            due("taker(3), not itself", x.taker(3), 7);
            tell(x, "call 7 aa");
            due("judge(7), called otherwise", x.judge(7), 3);
            due("judge(3), 11 is 8 steps away", x.judge(3), 0);
            due("taker(15), alone", x.taker(15), NONE);
        });
        sentence("0 nothing.", () -> {
            judges(with("syl a;first 1 a;first 2 aa;child 0 1 3 aaa;first 1 a"), 0, 0, 0, 0);
        });
    }

    private static void namesOfDay() {
        sentence("A NAME is FREE for a PERSON if nobody NEAR it is CALLED by it.", () -> {
            SumNames x = row();
            tell(x, "syl a;call 7 a;call 12 a;degrees 2");
            due("free(7, NONE), itself is called so, and 12 three steps away", x.free(7, NONE), 1);
            due("free(7, 0)", x.free(7, 0), 1);
            due("free(12, NONE)", x.free(12, NONE), 1);
            tell(x, "degrees 3");
            due("free(7, NONE), 12 is near", x.free(7, NONE), 0);
            due("free(8, NONE), 7 is near", x.free(8, NONE), 0);
            due("free(15, NONE), alone", x.free(15, NONE), 1);
            tell(x, "call 12 aa;call 10 b");
            due("free(7, NONE), those near are called otherwise", x.free(7, NONE), 1);
        });
        sentence("NAMES of a DAY are those with that SUM, by how many LETTERS they have, of like ones by their LETTERS (that is by their CODES).", () -> {
            SumNames x = with("letter z 4;letter y 2;letter x 2;letter w 1;syl w;syl y;syl x;syl z");
            String[] four = {"z", "xx", "xy", "yx", "yy", "wwx", "wwy", "wxw", "wyw", "xww", "yww"};
            for (int i = 0; i < four.length; i++) {
                due("which(4, " + i + ")", x.which(4, i), code(four[i]));
            }
            due("which(4, 11)", x.which(4, 11), NONE);
            due("which(1, 0)", x.which(1, 0), code("w"));
            SumNames last = with("letter a 99;letter b 4;letter c 5;syl aa;syl b;syl c");
            String[] greatest = {"aaaab", "aabaa", "baaaa"};
            for (int i = 0; i < 3; i++) {
                due("which(400, " + i + ")", last.which(400, i), code(greatest[i]));
            }
            due("names(400, 0), none of 401", last.names(400, 0), 3);
        });
    }

    private static void hopesOfTwo() {
        sentence("HOPES of two parents: each CHILD comes or not, each by itself; by which chance nobody is left without a NAME:", () -> {
            SumNames x = with("first 1 -;first 1 -");
            chance(x, 0, 1, 1, 1);
            tell(x, "hope 9 0");
            chance(x, 0, 1, 1, 1);
            tell(x, "hope 9 1");
            chance(x, 0, 1, 9, 10);
            tell(x, "hope 8 3");
            chance(x, 0, 1, 63, 100);
            tell(x, "hope 7 9");
            chance(x, 0, 1, 63, 1000);
            tell(x, "hope 6 10");
            chance(x, 0, 1, 0, 1);
            tell(x, "forget;first 1 -;first 1 -;" + times(5, "hope 9 9"), "hope 8 9");
            chance(x, 0, 1, 1, 1000000);
        });
        sentence("of those that come on a DAY there may be no more than NAMES of it that are FREE for a CHILD of these two", () -> {
            // of day 2: b, aa
            SumNames x = with("syl a;syl b;first 1 -;first 1 -;hope 2 10;hope 2 10");
            chance(x, 0, 1, 1, 1);
            tell(x, "hope 2 5");
            chance(x, 0, 1, 1, 2);
            tell(x, "call 0 b");
            chance(x, 0, 1, 0, 1);
            tell(x, "call 0 c;call 1 ab");
            chance(x, 0, 1, 1, 2);
            tell(x, "forget;syl a;first 1 a;first 1 -;hope 2 10;hope 1 2;hope 3 10;hope 400 5");
            chance(x, 0, 1, 2, 5);
            // as many names as come, six of six
            SumNames six = with(TEN_LIKE, "first 1 a;first 1 b;syl a;syl b;syl c;syl d;syl e;syl f", "syl g;syl h", times(6, "hope 1 10"));
            chance(six, 0, 1, 1, 1);
            tell(six, "call 0 h;first 1 a;child 1 2 1 c");
            chance(six, 0, 1, 0, 1);
        });
        sentence("(to whom a PERSON is NEAR if it is DEGREES less 1 or fewer from one of them, or is one).", () -> {
            int[][] near = {{7, 8}, {7, 8, 5, 10}, {7, 8, 5, 10, 6, 9}, {7, 8, 5, 10, 6, 9, 3, 12}};
            for (int degrees = 1; degrees <= 4; degrees++) {
                int those = bits(near[degrees - 1]);
                SumNames x = row();
                tell(x, "syl a;hope 1 10;degrees " + degrees);
                for (int p = 0; p < 16; p++) {
                    tell(x, "call " + p + " a");
                    int free = 1 - (those >> p & 1);
                    due("hopes(7, 8, 0), degrees " + degrees + ", " + p + " called a", x.hopes(7, 8, 0), free);
                    due("hopes(8, 7, 0), degrees " + degrees + ", " + p + " called a", x.hopes(8, 7, 0), free);
                    tell(x, "call " + p + " -");
                }
            }
        });
    }

    private static void daysWithout() {
        sentence("WITHOUT: DAYS from one to another one that have no NAME.", () -> {
            // 2, 5, 4, 7, 10, 6, 9, 12, 15 have one
            SumNames x = with("syl b;syl e");
            due("without(1, 400, 0)", x.without(1, 400, 0), 391);
            due("without(2, 2, 0)", x.without(2, 2, 0), 0);
            due("without(3, 3, 0), both ends count", x.without(3, 3, 0), 1);
            due("without(3, 8, 0), both ends count", x.without(3, 8, 0), 2);
            due("without(4, 7, 0)", x.without(4, 7, 0), 0);
            due("without(400, 400, 0)", x.without(400, 400, 0), 1);
            tell(x, "letter z 99;letter y 4;syl zz;syl y");
            due("without(400, 400, 0), zz.zz.y", x.without(400, 400, 0), 0);
            tell(x, "letter y 0");
            due("without(400, 400, 0), y being 0", x.without(400, 400, 0), 1);
        });
        sentence("MEND: the first SYLLABLE more (of 1, then 2 LETTERS; by these; of NUMBERS above 0; that there is not)", () -> {
            SumNames x = new SumNames();
            due("mend(1, 1)", x.mend(1, 1), code("a"));
            due("mend(3, 3), a three times", x.mend(3, 3), code("a"));
            due("mend(4, 4), b twice, d by itself", x.mend(4, 4), code("b"));
            due("mend(23, 23), one letter ahead of two", x.mend(23, 23), code("w"));
            due("mend(29, 29), two letters", x.mend(29, 29), code("cz"));
            due("mend(156, 156), the last", x.mend(156, 156), code("zz"));
            due("mend(159, 159), three letters it may not have", x.mend(159, 159), NONE);
            tell(x, "letter c 0");
            due("mend(29, 29), c being 0", x.mend(29, 29), code("dy"));
            due("mend(2, 2)", x.mend(2, 2), code("a"));
            tell(x, "letter a 0;letter b 0;letter z 1");
            due("mend(1, 1), a being 0", x.mend(1, 1), code("z"));
            due("mend(5, 5), not ae", x.mend(5, 5), code("e"));
            tell(x, "syl z;letter z 2");
            due("mend(8, 8), d twice", x.mend(8, 8), code("d"));
            tell(x, "letter z 99");
            due("mend(396, 396), z there is, zz not", x.mend(396, 396), code("zz"));
            due("mend(396, 396) once more", x.mend(396, 396), code("zz"));
        });
        sentence("by which none of them is without;", () -> {
            SumNames x = with("syl b");
            due("mend(1, 3), a, b, aaa", x.mend(1, 3), code("a"));
            due("mend(1, 6), a b ab bb abb bbb", x.mend(1, 6), code("a"));
            due("mend(6, 8), with a no 7; with c: bbb, bbc, bcc", x.mend(6, 8), code("c"));
            due("mend(6, 9)", x.mend(6, 9), code("c"));
            due("mend(6, 10)", x.mend(6, 10), NONE);
        });
        sentence("none;", () -> {
            due("mend(1, 4), nothing by one syllable", new SumNames().mend(1, 4), NONE);
            due("mend(400, 400)", new SumNames().mend(400, 400), NONE);
        });
        sentence("0: none is now.", () -> {
            SumNames x = with("syl a;syl d");
            due("mend(1, 6)", x.mend(1, 6), 0);
            due("mend(12, 12)", x.mend(12, 12), 0);
            due("mend(1, 7)", x.mend(1, 7), code("b"));
        });
    }

    private static void sum() {
        section("Promise 11");
        sentence("The SUM of a WORD by its CODE.", () -> {
            SumNames x = with("letter a 0;letter z 99");
            due("sum(1)", x.sum(1), 0);
            due("sum(26)", x.sum(26), 99);
            due("sum(28), aa", x.sum(28), 0);
            due("sum(53), az", x.sum(53), 99);
            due("sum(zzzzzzzzz)", x.sum(7625597484986L), 891);
            due("sum(aaaaaaaaa)", x.sum(293292210961L), 0);
            due("sum(abcdefghi)", x.sum(code("abcdefghi")), 44);
        });
        sentence("OUTSIDE: it is no CODE of 1 to 9 LETTERS.", () -> {
            for (long code : NO_CODES) {
                refused("sum(" + code + ")", x -> x.sum(code), OUTSIDE);
            }
            SumNames x = new SumNames();
            long place = 1;
            for (int behind = 0; behind < 9; behind++) {
                due("sum(zzzzzzzzz, nothing " + behind + " places ahead of the last)", x.sum(7625597484986L - 26 * place), behind < 8 ? OUTSIDE : 208);
                place *= 27;
            }
        });
    }

    private static void name() {
        section("Promise 12");
        sentence("Whether a WORD is a NAME: 1, 0.", () -> {
            SumNames x = new SumNames();
            due("name(a), no syllables", x.name(1), 0);
            tell(x, "syl a;syl abc");
            due("name(a)", x.name(1), 1);
            due("name(aaa)", x.name(code("aaa")), 1);
            due("name(aaaa)", x.name(code("aaaa")), 0);
            due("name(abcabcabc)", x.name(code("abcabcabc")), 1);
            due("name(ab)", x.name(code("ab")), 0);
            due("name(zzzzzzzzz)", x.name(7625597484986L), 0);
        });
        sentence("OUTSIDE.", () -> {
            for (long code : NO_CODES) {
                refused("name(" + code + ")", x -> x.name(code), OUTSIDE);
            }
        });
    }

    private static void judgeAndTaker() {
        section("Promise 13");
        sentence("JUDGED: 0 .. 4.", () -> {
            judges(with("syl a;first 1 a;first 1 -;first 1 b;first 1 aa;child 0 1 1 a;first 1 a"), 4, 1, 2, 3, 4, 0);
        });
        sentence("UNKNOWN.", () -> {
            for (int p : NO_PERSONS) {
                refused("judge(" + p + ")", x -> x.judge(p), UNKNOWN);
            }
        });
        section("Promise 14");
        sentence("By whom its NAME is TAKEN;", () -> {
            SumNames x = with("syl a;first 1 a;first 1 a;child 0 1 1 a;child 0 1 1 a;first 1 a");
            int[] due = {1, 0, 0, 0, NONE};
            for (int p = 0; p < due.length; p++) {
                due("taker(" + p + ")", x.taker(p), due[p]);
            }
            SumNames all = with("syl a;degrees 2;first 1 -;first 1 -", times(7, "child 0 1 1 -"), times(7, "child 0 1 1 -"), "call 14 a;call 15 a");
            due("taker(14), the last", all.taker(14), 15);
            due("taker(15)", all.taker(15), 14);
        });
        sentence("NONE: JUDGED is not 4.", () -> {
            SumNames x = with("syl a;first 2 a;first 2 a;child 0 1 1 c;child 0 1 3 c;child 0 1 1 -;child 0 1 1 -");
            for (int p = 0; p < 6; p++) {
                due("taker(" + p + "), called like another one", x.taker(p), NONE);
            }
        });
        sentence("UNKNOWN.", () -> {
            for (int p : NO_PERSONS) {
                refused("taker(" + p + ")", x -> x.taker(p), UNKNOWN);
            }
        });
    }

    private static void names() {
        section("Promise 15");
        sentence("How many NAMES of a DAY have so many LETTERS (1 .. 9; 0: all).", () -> {
            SumNames x = with("letter a 1;letter b 1;syl a;syl ab;syl aba");
            // aba is a name by itself and by ab.a, once; of nine letters aba thrice; of eight aba, aba and ab in three orders
            due("names(1, 1): a", x.names(1, 1), 1);
            due("names(2, 2): aa, ab", x.names(2, 2), 2);
            due("names(3, 3): aaa, aab, aba", x.names(3, 3), 3);
            due("names(9, 9)", x.names(9, 9), 1);
            due("names(9, 0)", x.names(9, 0), 1);
            due("names(9, 8)", x.names(9, 8), 0);
            due("names(8, 8)", x.names(8, 8), 3);
            due("names(10, 0)", x.names(10, 0), 0);
            due("names(400, 9)", x.names(400, 9), 0);
            SumNames most = thousand();
            due("names(3, 0), as many as there can be", most.names(3, 0), 1000);
            due("names(3, 3)", most.names(3, 3), 1000);
            due("names(3, 2)", most.names(3, 2), 0);
        });
        sentence("OUTSIDE.", () -> {
            for (int day : new int[] {0, -1, 401, HUGE, LOW}) {
                refused("names(" + day + ", 0)", x -> x.names(day, 0), OUTSIDE);
            }
            for (int letters : new int[] {-1, 10, HUGE, LOW}) {
                refused("names(1, " + letters + ")", x -> x.names(1, letters), OUTSIDE);
            }
        });
    }

    private static void which() {
        section("Promise 16");
        sentence("The i-th NAME of a DAY (from 0), as a CODE;", () -> {
            SumNames x = thousand();
            due("which(1, 0)", x.which(1, 0), code("a"));
            due("which(2, 0)", x.which(2, 0), code("aa"));
            due("which(1, 9)", x.which(1, 9), code("j"));
            due("which(2, 99)", x.which(2, 99), code("jj"));
            due("which(3, 999)", x.which(3, 999), code("jjj"));
            due("which(3, 0)", x.which(3, 0), code("aaa"));
            due("which(3, 1)", x.which(3, 1), code("aab"));
            due("which(3, 507)", x.which(3, 507), code("fah"));
        });
        sentence("NONE: there are not so many.", () -> {
            SumNames x = thousand();
            due("which(1, 10)", x.which(1, 10), NONE);
            due("which(3, 1000)", x.which(3, 1000), NONE);
            due("which(3, 1110)", x.which(3, 1110), NONE);
            due("which(3, HUGE)", x.which(3, HUGE), NONE);
            due("which(4, 0)", x.which(4, 0), NONE);
            due("which(400, 0), no syllables", new SumNames().which(400, 0), NONE);
        });
        sentence("OUTSIDE.", () -> {
            for (int day : new int[] {0, -1, 401, HUGE, LOW}) {
                refused("which(" + day + ", 0)", x -> x.which(day, 0), OUTSIDE);
            }
            for (int i : new int[] {-1, -2, LOW}) {
                refused("which(3, " + i + ")", x -> x.which(3, i), OUTSIDE);
            }
        });
    }

    private static void free() {
        section("Promise 17");
        sentence("How many NAMES of its DAY are FREE for a PERSON (i NONE), the i-th of these as a CODE;", () -> {
            // of day 3: ab, ba, aaa; 0 and 1 are parents of 2
            SumNames x = with("syl a;syl b;first 3 ab;first 3 aaa;child 0 1 3 -;first 3 -;first 9 -");
            int[] many = {2, 2, 1, 3, 0};
            String[][] words = {{"ab", "ba"}, {"ba", "aaa"}, {"ba"}, {"ab", "ba", "aaa"}, {}};
            for (int p = 0; p < 5; p++) {
                due("free(" + p + ", NONE)", x.free(p, NONE), many[p]);
                for (int i = 0; i < words[p].length; i++) {
                    due("free(" + p + ", " + i + ")", x.free(p, i), code(words[p][i]));
                }
                due("free(" + p + ", " + many[p] + ")", x.free(p, many[p]), NONE);
            }
        });
        sentence("NONE: there are not so many.", () -> {
            SumNames x = thousand();
            tell(x, "first 3 jjj;first 3 aaa;child 0 1 3 -");
            due("free(2, NONE)", x.free(2, NONE), 998);
            due("free(2, 997)", x.free(2, 997), code("jji"));
            due("free(2, 998)", x.free(2, 998), NONE);
            due("free(2, HUGE)", x.free(2, HUGE), NONE);
            due("free(0, 998)", x.free(0, 998), code("jjj"));
            due("free(0, 999)", x.free(0, 999), NONE);
        });
        sentence("UNKNOWN;", () -> {
            for (int p : NO_PERSONS) {
                refused("free(" + p + ", 0)", x -> x.free(p, 0), UNKNOWN);
                refused("free(" + p + ", NONE)", x -> x.free(p, NONE), UNKNOWN);
                refused("free(" + p + ", -2), both", x -> x.free(p, -2), UNKNOWN);
            }
        });
        sentence("OUTSIDE.", () -> {
            for (int i : new int[] {-2, -3, LOW}) {
                refused("free(0, " + i + ")", x -> x.free(0, i), OUTSIDE);
            }
        });
    }

    private static void hopes() {
        section("Promise 18");
        sentence("HOPES of two: the chance.", () -> {
            SumNames x = with("first 1 -;first 1 -;first 1 c;syl c;hope 3 5;hope 3 5");
            chance(x, 0, 1, 3, 4);
            chance(x, 1, 0, 3, 4);
            chance(x, 0, 2, 1, 4);
            chance(x, 2, 1, 1, 4);
        });
        sentence("UNKNOWN;", () -> {
            for (int p : NO_PERSONS) {
                refused("hopes(" + p + ", 0, 0)", x -> x.hopes(p, 0, 0), UNKNOWN);
                refused("hopes(0, " + p + ", 1)", x -> x.hopes(0, p, 1), UNKNOWN);
                refused("hopes(" + p + ", " + p + ", 0), both", x -> x.hopes(p, p, 0), UNKNOWN);
                refused("hopes(0, " + p + ", 2), both", x -> x.hopes(0, p, 2), UNKNOWN);
            }
        });
        sentence("OUTSIDE: one and itself, part.", () -> {
            refused("hopes(0, 0, 0)", x -> x.hopes(0, 0, 0), OUTSIDE);
            refused("hopes(5, 5, 1)", x -> x.hopes(5, 5, 1), OUTSIDE);
            for (int part : new int[] {-1, 2, HUGE, LOW}) {
                refused("hopes(0, 1, " + part + ")", x -> x.hopes(0, 1, part), OUTSIDE);
            }
        });
    }

    private static void without() {
        section("Promise 19");
        sentence("WITHOUT: how many (what 0), the first (1; NONE).", () -> {
            SumNames x = with("syl a;syl d");
            // 1, 2, 3, 4, 5, 6, 8, 9, 12 have one
            due("without(1, 400, 0)", x.without(1, 400, 0), 391);
            due("without(1, 400, 1)", x.without(1, 400, 1), 7);
            due("without(1, 6, 0)", x.without(1, 6, 0), 0);
            due("without(1, 6, 1)", x.without(1, 6, 1), NONE);
            due("without(7, 7, 1)", x.without(7, 7, 1), 7);
            due("without(8, 12, 1)", x.without(8, 12, 1), 10);
            due("without(400, 400, 1)", x.without(400, 400, 1), 400);
            due("without(1, 400, 1), no syllables", new SumNames().without(1, 400, 1), 1);
        });
        sentence("OUTSIDE: days, the second less than the first, what.", () -> {
            int[][] outside = {{0, 5, 0}, {-1, 5, 1}, {1, 401, 0}, {401, 401, 1}, {0, 0, 0}, {5, 4, 0}, {400, 1, 1}, {5, 0, 0}, {LOW, HUGE, 0},
                {HUGE, LOW, 0}, {HUGE, HUGE, 0}, {1, 5, 2}, {1, 5, -1}, {1, 5, HUGE}, {1, 5, LOW}};
            for (int[] row : outside) {
                refused("without(" + row[0] + ", " + row[1] + ", " + row[2] + ")", x -> x.without(row[0], row[1], row[2]), OUTSIDE);
            }
            due("without(5, 5, 0), not less", new SumNames().without(5, 5, 0), 1);
        });
    }

    private static void mend() {
        section("Promise 20");
        sentence("MEND, as a CODE; NONE.", () -> {
            SumNames x = new SumNames();
            due("mend(26, 26), m twice", x.mend(26, 26), 13);
            due("mend(31, 31), ez", x.mend(31, 31), 5 * 27 + 26);
            due("mend(52, 52), z twice", x.mend(52, 52), 26);
            due("mend(53, 53)", x.mend(53, 53), NONE);
            due("mend(1, 400)", x.mend(1, 400), NONE);
            due("count(1), nothing is told by it", x.count(1), 0);
        });
        sentence("OUTSIDE.", () -> {
            int[][] outside = {{0, 5}, {-1, 5}, {1, 401}, {401, 401}, {5, 4}, {5, 0}, {LOW, HUGE}, {HUGE, LOW}};
            for (int[] row : outside) {
                refused("mend(" + row[0] + ", " + row[1] + ")", x -> x.mend(row[0], row[1]), OUTSIDE);
                refused("mend(" + row[0] + ", " + row[1] + "), 10 syllables", Sentences::full, x -> x.mend(row[0], row[1]), OUTSIDE);
            }
        });
        sentence("NOT: there are 10 SYLLABLES, and some DAY is without.", () -> {
            refused("mend(1, 31), 31 is without", Sentences::full, x -> x.mend(1, 31), NOT);
            refused("mend(31, 400)", Sentences::full, x -> x.mend(31, 400), NOT);
            due("mend(1, 30), none is without", full().mend(1, 30), 0);
            SumNames nine = with("syl a;syl b;syl c;syl d;syl e;syl f;syl g;syl h", "syl i");
            due("mend(28, 30), 9 syllables", nine.mend(28, 30), code("j"));
            due("mend(28, 400), 9 syllables", nine.mend(28, 400), NONE);
        });
    }
}
