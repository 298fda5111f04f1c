/** The document's sentences on what is told: letters, syllables, words, persons, the text; promises 1 to 10. */
final class ToldSentences extends Sentences {
    private static final String EIGHT = times(8, "forget");

    private ToldSentences() {
    }

    static void all() {
        letters();
        words();
        persons();
        kin();
        lines();
        parts();
        signs();
        faults();
        fullFaults();
        newObject();
        write();
        eraseAndFault();
        told();
        letter();
        person();
        calledAndDegrees();
        as();
    }

    private static void letters() {
        section("What it is");
        sentence("LETTERS are a .. z, each with a NUMBER (0 ..", () -> {
            SumNames x = with("letter a 0;letter z 0");
            due("letter(0)", x.letter(0), 0);
            due("letter(25)", x.letter(25), 0);
            due("letter(1)", x.letter(1), 2);
            due("letter(24)", x.letter(24), 25);
            due("letter(-1)", x.letter(-1), UNKNOWN);
            due("letter(26)", x.letter(26), UNKNOWN);
            marked(x, "letter a 5", "letter z 5", "letter ^` 5", "letter ^{ 5", "letter ^A 5", "letter a ^-1");
        });
        section("Terms");
        sentence("99; 1 .. 26 at first).", () -> {
            SumNames x = new SumNames();
            for (int i = 0; i < 26; i++) {
                due("letter(" + i + ") at first", x.letter(i), i + 1);
            }
            tell(x, "letter a 99;letter b 98");
            due("letter(0)", x.letter(0), 99);
            due("letter(1)", x.letter(1), 98);
            due("letter(2)", x.letter(2), 3);
            marked(x, "letter a ^100", "letter a ^999");
        });
        sentence("SYLLABLES are rows of 1 to 3 LETTERS, 10 at most (none at first).", () -> {
            SumNames x = new SumNames();
            due("count(1) at first", x.count(1), 0);
            due("name(a) at first", x.name(1), 0);
            marked(x, "syl a", "syl bc", "syl def", "syl^", "syl ^ghij");
            tell(x, "syl a;syl bc;syl def;syl g;syl h;syl i;syl j;syl k");
            tell(x, "syl l;syl mno");
            due("count(1)", x.count(1), 10);
            for (String word : new String[] {"a", "bc", "def", "l", "mno"}) {
                due("name(" + word + ")", x.name(code(word)), 1);
            }
            marked(x, "syl ^p");
        });
    }

    private static void words() {
        sentence("A WORD is a row of 1 to 9 LETTERS, told as a CODE: for each LETTER, from the first on, 27 times what there was, "
            + "and 1 for a .. 26 for z.", () -> {
            SumNames x = with("first 1 a;first 1 z;first 1 az;first 1 ba;first 1 zzzzzzzzz;first 1 aaaaaaaaa");
            long[] codes = {1, 26, 53, 55, 7625597484986L, 293292210961L};
            for (int p = 0; p < codes.length; p++) {
                due("called(" + p + ")", x.called(p), codes[p]);
            }
            marked(x, "first 1 abcdefghi", "first 1 ^abcdefghij", "first 1^");
            due("sum(zzzzzzzzz)", x.sum(7625597484986L), 234);
            due("sum(aaaaaaaaaa)", x.sum(code("aaaaaaaaaa")), OUTSIDE);
        });
        sentence("Its SUM: the NUMBERS of its LETTERS together.", () -> {
            SumNames x = with("letter a 99;letter b 0");
            due("sum(aaaaaaaaa), the greatest", x.sum(code("aaaaaaaaa")), 891);
            due("sum(bbbbbbbbb), the least", x.sum(code("bbbbbbbbb")), 0);
            due("sum(abz)", x.sum(code("abz")), 125);
            due("sum(z)", x.sum(26), 26);
        });
        sentence("A NAME is a WORD that can be parted into 1 to 3 SYLLABLES (of like ones, too) of LETTERS whose NUMBERS are above 0.", () -> {
            SumNames x = with("syl abc;syl d;syl da");
            for (String word : new String[] {"abc", "d", "da", "dd", "ddd", "abcabcabc", "ddda", "dada", "dadad", "dadada", "dabcda"}) {
                due("name(" + word + ")", x.name(code(word)), 1);
            }
            for (String word : new String[] {"a", "dddd", "abcabcab", "ab", "bc", "ad", "dabcdad", "ddddd", "dddda"}) {
                due("name(" + word + ")", x.name(code(word)), 0);
            }
            tell(x, "letter c 0;letter d 1");
            due("name(abc), c being 0", x.name(code("abc")), 0);
            due("name(dabcda), c being 0", x.name(code("dabcda")), 0);
            due("name(d), d being 1", x.name(code("d")), 1);
            tell(x, "letter c 3;letter a 0");
            due("name(abc), the first letter being 0", x.name(code("abc")), 0);
            due("name(adddddddd), the first of nine being 0", with("syl add;syl ddd;letter a 0").name(code("adddddddd")), 0);
            due("name(adddddddd)", with("syl add;syl ddd").name(code("adddddddd")), 1);
            due("names(1, 0)", x.names(1, 0), 1);
        });
        sentence("DAYS are 1 .. 400.", () -> {
            SumNames x = with("first 1 -;first 400 -");
            due("person(0, 0)", x.person(0, 0), 1);
            due("person(1, 0)", x.person(1, 0), 400);
            marked(x, "first ^0 -", "first ^401 -", "child 0 1 1 -", "child 0 1 400 -", "child 0 1 ^0 -", "child 0 1 ^401 -");
            marked(x, "hope 1 1", "hope 400 1", "hope ^0 1", "hope ^401 1");
            due("names(1, 0)", x.names(1, 0), 0);
            due("names(400, 0)", x.names(400, 0), 0);
            due("names(0, 0)", x.names(0, 0), OUTSIDE);
            due("names(401, 0)", x.names(401, 0), OUTSIDE);
        });
    }

    private static void persons() {
        sentence("PERSONS 0 .. 15, as they come: a FIRST one, without parents, or a CHILD of two others told ahead;", () -> {
            SumNames x = full();
            for (int p = 0; p < 16; p++) {
                due("person(" + p + ", 0)", x.person(p, 0), p + 1);
                due("person(" + p + ", 1)", x.person(p, 1), NONE);
                due("person(" + p + ", 2)", x.person(p, 2), NONE);
            }
            due("count(0)", x.count(0), 16);
            due("person(16, 0)", x.person(16, 0), UNKNOWN);
            due("person(-1, 0)", x.person(-1, 0), UNKNOWN);
            SumNames later = with("first 1 -;first 2 -;child 0 1 3 -;first 4 -");
            due("person(3, 1), a first one behind a child", later.person(3, 1), NONE);
            due("person(3, 2), a first one behind a child", later.person(3, 2), NONE);
            SumNames two = with("first 1 -;first 2 -");
            marked(two, "child 0 1 3 -", "child 1 0 3 -;child 2 0 3 -", "child 0 ^2 3 -", "child ^2 0 3 -");
            marked(new SumNames(), "child ^0 1 3 -", "child ^1 0 3 -");
            marked(with("first 1 -"), "child 0 ^1 3 -", "child 0 ^0 3 -", "child ^1 0 3 -");
        });
        sentence("each with a DAY of birth, and what it is CALLED: a WORD, or nothing.", () -> {
            SumNames x = with("first 7 abc;first 8 -;child 0 1 9 z;child 0 1 10 -");
            long[][] rows = {{7, 786}, {8, 0}, {9, 26}, {10, 0}};
            for (int p = 0; p < rows.length; p++) {
                due("person(" + p + ", 0)", x.person(p, 0), rows[p][0]);
                due("called(" + p + ")", x.called(p), rows[p][1]);
            }
        });
        sentence("A CHILD with the same parents (either way about) and DAY as one told ahead is a TWIN.", () -> {
            SumNames x = with("first 5 -;first 5 -;first 5 -;child 0 1 5 -;child 1 0 5 -;child 0 1 5 -;child 0 1 6 -;child 0 2 5 -",
                "child 2 1 5 -;child 1 0 6 -;child 1 2 6 -");
            int[] kinds = {0, 0, 0, 1, 2, 2, 1, 1, 1, 2, 1};
            for (int p = 0; p < kinds.length; p++) {
                due("person(" + p + ", 3)", x.person(p, 3), kinds[p]);
            }
        });
    }

    private static void kin() {
        sentence("DEGREES between two: the fewest steps from child to parent, from parent to child;", () -> {
            SumNames x = row();
            int[] order = {0, 2, 1, 4, 3, 6, 5, 8, 7, 10, 9, 12, 11, 14, 13};
            for (int steps = 0; steps < order.length; steps++) {
                due("degrees(0, " + order[steps] + ")", x.degrees(0, order[steps]), steps);
                due("degrees(" + order[steps] + ", 0)", x.degrees(order[steps], 0), steps);
            }
            due("degrees(15, 0), no steps", x.degrees(15, 0), NONE);
            SumNames two = with("first 1 -;first 1 -;child 0 1 1 -;child 0 2 1 -;child 3 1 1 -");
            due("degrees(3, 0), 1 or by 2 two", two.degrees(3, 0), 1);
            due("degrees(4, 0), by 3 two", two.degrees(4, 0), 2);
            due("degrees(4, 2), by 3 or 1 two", two.degrees(4, 2), 2);
        });
        sentence("NEAR: DEGREES told (1 .. 4; 3 at first) or fewer, but itself.", () -> {
            SumNames x = row();
            due("person(7, 4), at first", x.person(7, 4), bits(8, 10, 5, 9, 6, 12));
            int[] near = {bits(8, 10), bits(8, 10, 5, 9), bits(8, 10, 5, 9, 6, 12), bits(8, 10, 5, 9, 6, 12, 3, 11)};
            int[] nearFirst = {bits(2), bits(2, 1), bits(2, 1, 4), bits(2, 1, 4, 3)};
            for (int degrees = 1; degrees <= 4; degrees++) {
                tell(x, "degrees " + degrees);
                due("person(7, 4), degrees " + degrees, x.person(7, 4), near[degrees - 1]);
                due("person(0, 4), degrees " + degrees, x.person(0, 4), nearFirst[degrees - 1]);
                due("person(15, 4), alone", x.person(15, 4), 0);
            }
            marked(x, "degrees ^0", "degrees ^5");
        });
    }

    private static void lines() {
        sentence("THE TEXT is a row of bytes, 200 at most:", () -> {
            SumNames x = new SumNames();
            put(x, "forget" + " ".repeat(187));
            for (int n = 8; n <= 9; n++) {
                due("write(blanks, " + n + ") at 193", x.write(0x2020202020202020L, n), n == 8 ? FULL : OUTSIDE);
            }
            due("count(4)", x.count(4), 193);
            due("write(blanks, 7) at 193", x.write(0x2020202020202020L, 7), 200);
            due("write(blank, 1) at 200", x.write(0x20, 1), FULL);
            due("fault() of 200 bytes", x.fault(), NONE);
            due("told() of 200 bytes", x.told(), 1);
            due("write(0, 1)", x.write(0, 1), 1);
            due("write(255, 1)", x.write(255, 1), 2);
            marked(x, "^" + "a".repeat(200), "^" + "1".repeat(200), "letter x ^" + "0".repeat(191), " ".repeat(200) + "^");
        });
        sentence("LINES with ; (59) between, 1 to 8 (", () -> {
            SumNames x = new SumNames();
            for (int n = 1; n <= 8; n++) {
                tell(x, times(n, "forget"));
            }
            marked(x, "forget^:forget", "forget^<forget", "forget^,forget", "forget^\nforget", "forget;^;forget", "^;forget");
        });
        sentence("an empty TEXT ends too soon;", () -> {
            SumNames x = new SumNames();
            marked(x, "^", " ^", "        ^");
            due("fault()", x.fault(), 0);
            due("told()", x.told(), NOT);
            tell(x, "syl a");
            due("fault(), empty by told", x.fault(), 0);
            put(x, "syl b");
            x.erase();
            due("fault(), empty by erase", x.fault(), 0);
            due("told(), empty by erase", x.told(), NOT);
        });
        sentence("behind the 8th no ; can stand);", () -> {
            SumNames x = new SumNames();
            marked(x, EIGHT, EIGHT + "  ", EIGHT + "^;", EIGHT + " ^;forget", EIGHT + "^;;", EIGHT + " ^forget",
                times(7, "forget") + ";^", times(7, "forget") + ";^;forget");
            put(x, EIGHT + ";");
            due("told()", x.told(), NOT);
        });
    }

    private static void parts() {
        sentence("each is one of: letter X N. syl S. first D W. child P Q D W. call P W. hope D C. degrees N. forget.", () -> {
            with("first 1 -;first 1 -", "letter q 7;syl q;first 17 q;child 0 1 24 qq;call 0 q;hope 17 5;degrees 2;forget");
            String[] parts = {"letter x 5", "syl s", "first 5 w", "child 0 1 5 w", "call 1 w", "hope 5 5", "degrees 3", "forget"};
            for (String line : parts) {
                SumNames x = with("first 1 -;first 1 -");
                String word = line.split(" ")[0];
                String rest = line.substring(word.length());
                marked(x, line, "^" + word.substring(0, word.length() - 1) + rest, "^" + word + "s" + rest, "^x" + word + rest);
                marked(x, "^x" + word.substring(1) + rest, "^" + word.substring(0, word.length() - 1) + "x" + rest);
                marked(x, line + " ^x", line + " ^5", line + "^-", line + " ^" + line);
                for (int end = line.lastIndexOf(' '); end >= 0; end = line.lastIndexOf(' ', end - 1)) {
                    marked(x, line.substring(0, end) + "^", line.substring(0, end) + "^;forget");
                }
            }
        });
        sentence("(As written here, without points;", () -> {
            SumNames x = with("first 1 -;first 1 -");
            marked(x, "forget^.", "syl a^.", "letter x 5^.", "letter^. x 5", "^Letter x 5", "^FORGET");
            marked(x, "letter ^5 x", "hope ^- 5", "first ^w 5", "call ^w 1", "child 0 1 ^w 5", "degrees ^x", "syl ^5");
        });
        sentence("X a LETTER, N 0 .. 99;", () -> {
            SumNames x = new SumNames();
            marked(x, "letter a 0", "letter z 99", "letter x ^100", "letter ^ab 5", "letter ^- 5", "letter ^5 5", "letter x ^-", "letter x ^a");
            marked(x, "letter ^" + wrappingWord(1, 64) + " 5", "letter ^" + wrappingWord(1, 32) + " 5");
        });
        sentence("S: 1 to 3 LETTERS, a SYLLABLE more;", () -> {
            SumNames x = with("syl a");
            marked(x, "syl b", "syl bcd", "syl^", "syl ^bcde", "syl ^-", "syl ^5", "syl ^" + wrappingWord(2, 64));
            tell(x, "syl bcd");
            due("count(1)", x.count(1), 2);
            due("name(a), told earlier", x.name(1), 1);
            due("name(bcda)", x.name(code("bcda")), 1);
        });
        sentence("W: 1 to 9 LETTERS, or - (45): nothing;", () -> {
            SumNames x = with("first 1 a;first 1 b");
            for (String ahead : new String[] {"first 1 ", "child 0 1 1 ", "call 0 "}) {
                marked(x, ahead + "a", ahead + "abcdefghi", ahead + "-", ahead + "^abcdefghij", ahead + "^,", ahead + "^.", ahead + "^5");
                marked(x, ahead + "^" + wrappingWord(1, 64), ahead + "-^-", ahead + "-^a", ahead + "a^-", ahead + "^;", ahead + "forget");
            }
            tell(x, "call 0 abcdefghi;call 1 -;first 1 -;child 0 1 1 -");
            long[] called = {code("abcdefghi"), 0, 0, 0};
            for (int p = 0; p < 4; p++) {
                due("called(" + p + ")", x.called(p), called[p]);
            }
        });
        sentence("P, Q PERSONS told ahead, Q not P;", () -> {
            SumNames x = with("first 1 -;first 1 -;first 1 -");
            marked(x, "call 0 a", "call 2 a", "call ^3 a", "call ^- a", "call ^999 a", "child 0 2 1 -", "child 2 0 1 -", "child ^3 0 1 -");
            marked(x, "child 0 ^3 1 -", "child 0 ^0 1 -", "child 2 ^2 1 -", "child 2 ^02 1 -", "child 02 ^2 1 -", "child ^- 1 1 -");
            marked(x, "call ^" + wrappingNumber(1, 32) + " a", "call ^" + wrappingNumber(1, 64) + " a", "call ^16 a", "call ^32 a");
            marked(new SumNames(), "call ^0 a", "child ^0 0 1 -");
        });
        sentence("hope: a CHILD to come, on a DAY, by C tenths (0 .. 10), 6 at most;", () -> {
            SumNames x = with("first 1 -;first 1 -");
            marked(x, "hope 1 0", "hope 400 10", "hope ^0 5", "hope ^401 5", "hope 5 ^11", "hope 5 ^-", "hope 5 ^-1", "hope 5 ^100");
            tell(x, times(6, "hope 5 5"));
            due("count(2)", x.count(2), 6);
            chance(x, 0, 1, 1, 64);
            marked(x, "^hope 5 5", "^hope 5 0");
            tell(x, "forget;first 1 -;first 1 -;hope 5 0;hope 5 10");
            chance(x, 0, 1, 0, 1);
        });
        sentence("degrees: 1 .. 4;", () -> {
            SumNames x = new SumNames();
            marked(x, "degrees 1", "degrees 4", "degrees ^0", "degrees ^5", "degrees ^-", "degrees^", "degrees ^000", "degrees 004");
            for (int degrees = 1; degrees <= 4; degrees++) {
                tell(x, "degrees " + degrees);
                due("count(3)", x.count(3), degrees);
            }
        });
        sentence("forget: no SYLLABLES, no PERSONS, no HOPES;", () -> {
            SumNames x = full();
            tell(x, "letter a 50;degrees 4");
            x.sheet(1, 1, 7);
            x.keep(1);
            tell(x, "forget");
            int[] counts = {0, 0, 0, 4, 0, NONE, 7, NONE};
            for (int what = 0; what < 8; what++) {
                due("count(" + what + ")", x.count(what), counts[what]);
            }
            due("letter(0) stays", x.letter(0), 50);
            due("person(0, 0)", x.person(0, 0), UNKNOWN);
            due("name(b)", x.name(2), 0);
            marked(x, "syl a;first 1 -;hope 1 1;call 0 a", "call ^0 a", "child ^0 1 1 -");
            due("back(1), an image stays", x.back(1), 16);
            tell(x, "forget;forget");
            due("count(0), forgotten when there is nothing", x.count(0), 0);
            SumNames twins = with("first 1 a;first 1 a;child 0 1 5 a;child 0 1 5 a", "forget;first 1 -;first 1 -;child 1 0 5 -;first 5 -");
            due("person(2, 3), no twin of one forgotten", twins.person(2, 3), 1);
            due("called(2), as told anew", twins.called(2), 0);
            due("person(3, 1), as told anew", twins.person(3, 1), NONE);
            due("person(3, 4), as told anew", twins.person(3, 4), 0);
        });
    }

    private static void signs() {
        sentence("small letters a .. z,", () -> {
            SumNames x = new SumNames();
            marked(x, "syl a", "syl z", "syl ^`", "syl ^{", "syl ^A", "syl ^Z", "syl a^B", "syl a^{", "syl ^" + (char) 225, "^Syl a");
        });
        sentence("numbers of 1 to 3 digits,", () -> {
            SumNames x = new SumNames();
            marked(x, "first 1 -", "first 01 -", "first 001 -", "first ^0001 -", "first 040 -", "letter x 0", "letter x 000", "letter x ^0000");
            marked(x, "letter x ^/", "letter x ^:", "letter x 9^:", "letter x 9^/", "degrees ^0004", "degrees 04", "hope 010 010", "hope 010 ^0010");
            tell(x, "letter x 090;first 009 -");
            due("letter(23)", x.letter(23), 90);
            due("person(0, 0)", x.person(0, 0), 9);
        });
        sentence("blanks (32) may stand ahead of, between and behind TOKENS,", () -> {
            SumNames x = new SumNames();
            tell(x, "   letter   x    5   ;   syl   a   ;first  7  -  ;call  0  a ;degrees  2 ");
            due("letter(23)", x.letter(23), 5);
            due("count(3)", x.count(3), 2);
            due("called(0)", x.called(0), 1);
            marked(x, "forget^\t", "forget^!", "forget^" + (char) 31, "forget^" + (char) 160, "^\tforget", "forget^\n", "forget^" + (char) 0);
            marked(x, "^for get", "syl b ^c", "letter x 1 ^2", "forget ;forget", "forget; forget");
        });
        sentence("none is needed but between two words, two numbers;", () -> {
            SumNames x = with("first12abc;first12-;call0-;child0 1 5-;child0 1 5x;degrees4;hope5 5;call0abc");
            due("called(0)", x.called(0), 786);
            due("called(3)", x.called(3), 24);
            due("count(3)", x.count(3), 4);
            marked(x, "letter x5", "^letterx5", "^letterx 5", "^syla", "child01 ^5-", "hope55^", "hope 5^-5", "letter x5;forget", "first5forget;forget");
        });
        sentence("what earlier texts told stays.)", () -> {
            SumNames x = with("letter a 7;syl a;first 1 a;hope 1 1;degrees 4", "letter b 8;syl b;first 1 b;hope 1 1");
            int[] counts = {2, 2, 2, 4};
            for (int what = 0; what < 4; what++) {
                due("count(" + what + ")", x.count(what), counts[what]);
            }
            due("letter(0)", x.letter(0), 7);
            due("called(0)", x.called(0), 1);
            due("name(ab)", x.name(code("ab")), 1);
        });
    }

    private static void faults() {
        sentence("A FAULT is at the first TOKEN (a row of small letters, a row of digits, any other byte) that cannot stand there (", () -> {
            SumNames x = new SumNames();
            marked(x, "letter x  ^1000", "syl ^abcdefgh", "letter ^xy 1000", "letter x 12^ab", "letter x 12 ^34", "forget ^--", "forget^" + (char) 255);
            marked(x, "forget^" + (char) 0, "^-", "^5", "^" + (char) 128 + "forget", "syl a;syl ^a;syl a", "letter x ^-5");
        });
        sentence("a number out of its bounds,", () -> {
            SumNames x = with("first 1 -;first 1 -");
            marked(x, "letter x ^100", "first ^0 -", "first ^401 -", "child ^2 0 5 -", "child 0 ^2 5 -", "child 0 1 ^0 -", "child 0 1 ^401 -");
            marked(x, "call ^2 -", "hope ^0 5", "hope ^401 5", "hope 5 ^11", "degrees ^0", "degrees ^5");
        });
        sentence("of more digits, also;", () -> {
            SumNames x = with("first 1 -;first 1 -");
            marked(x, "letter x ^0005", "first ^0005 -", "child ^0001 0 5 -", "child 1 ^0000 5 -", "child 0 1 ^0005 -", "call ^0000 -");
            marked(x, "hope ^0005 5", "hope 5 ^0005", "degrees ^0003");
            for (int bits = 8; bits <= 64; bits *= 2) {
                String five = wrappingNumber(3, bits);
                marked(x, "letter x ^" + five, "hope 5 ^" + five, "degrees ^" + five);
            }
            marked(x, "first ^" + wrappingNumber(3, 32) + " -", "first ^" + wrappingNumber(3, 64) + " -", "letter x ^" + "9".repeat(190));
        });
    }

    private static void fullFaults() {
        sentence("an eleventh SYLLABLE,", () -> {
            SumNames x = with("syl a;syl b;syl c;syl d;syl e;syl f;syl g;syl h", "syl i");
            marked(x, "syl j", "syl j;syl ^k", "syl j;syl  ^k ", "syl j;syl^", "syl j;syl^;", "syl j;syl ^5", "syl j;forget;syl k");
            tell(x, "syl j");
            marked(x, "syl ^k", "degrees 1;syl ^k", "forget;syl k");
            put(x, "syl k");
            due("told()", x.told(), NOT);
            due("count(1)", x.count(1), 10);
        });
        sentence("one that there is, at its S;", () -> {
            SumNames x = with("syl ab;syl c");
            marked(x, "syl ^ab", "syl ^c", "syl a", "syl abc", "syl ba", "syl cc", "syl d;syl ^d", "syl d;syl ^ab", "forget;syl ab", "syl ^ab x");
        });
        sentence("a seventeenth PERSON,", () -> {
            SumNames x = with(times(8, "first 1 -"), times(7, "first 1 -"));
            marked(x, "first 1 -", "first 1 -;^first 1 -", "child 0 1 1 -; ^child 0 1 1 -", "first 1 -;^first", "first 1 -;^child 99 99 999 -");
            tell(x, "first 1 -");
            marked(x, "^first 1 -", "  ^first", "^child 0 1 1 -", "degrees 1;^child 0 0 0 -", "forget;first 1 -", "call 15 a", "call ^16 a");
        });
        sentence("a seventh HOPE at its word),", () -> {
            SumNames x = with(times(5, "hope 1 1"));
            marked(x, "hope 1 1", "hope 1 1;^hope 1 1", "hope 1 1; ^hope", "hope 1 1;^hope 999 99", "hope 1 1;forget;hope 1 1");
            tell(x, "hope 1 1");
            marked(x, "^hope 1 1", "  ^hope", "degrees 1;^hope 1 1", "forget;hope 1 1");
        });
        sentence("or at the end, if it comes too soon.", () -> {
            SumNames x = with("first 1 -;first 1 -");
            marked(x, "letter^", "letter ^", "letter x^", "letter x  ^", "syl^", "first^", "first 5^", "child^", "child 0^", "child 0 1^", "child 0 1 5 ^");
            marked(x, "call^", "call 0^", "hope^", "hope 5^", "degrees^", "forget;^", "forget;  ^", "^");
            marked(x, "forget;" + " ".repeat(193) + "^");
        });
        sentence("LINES are done in their order;", () -> {
            SumNames x = with("letter a 5;letter a 7;syl a;forget;first 3 b;call 0 c;call 0 d;degrees 1");
            due("letter(0)", x.letter(0), 7);
            due("count(1)", x.count(1), 0);
            due("count(0)", x.count(0), 1);
            due("called(0)", x.called(0), 4);
            tell(x, "degrees 4;degrees 2;forget;syl a");
            due("count(3)", x.count(3), 2);
            due("count(1)", x.count(1), 1);
        });
        sentence("what there is by LINES ahead counts in it.", () -> {
            SumNames x = new SumNames();
            marked(x, "first 1 -;call 0 a", "call ^0 a;first 1 -", "first 1 -;first 1 -;child 0 1 1 -;child 2 0 1 -", "first 1 -;child 0 ^1 1 -");
            marked(x, "first 1 -;forget;call ^0 a", "syl a;syl ^a", "syl a;forget;syl a");
        });
    }

    private static void newObject() {
        section("Promise 1");
        sentence("NUMBERS 1 .. 26; nothing else.", () -> {
            SumNames x = new SumNames();
            for (int i = 0; i < 26; i++) {
                due("letter(" + i + ")", x.letter(i), i + 1);
            }
            int[] counts = {0, 0, 0, 3, 0, NONE, NONE, NONE};
            for (int what = 0; what < 8; what++) {
                due("count(" + what + ")", x.count(what), counts[what]);
            }
            due("erase()", x.erase(), 0);
            due("person(0, 0)", x.person(0, 0), UNKNOWN);
            due("without(1, 400, 0)", x.without(1, 400, 0), 400);
            due("old(1, NONE)", x.old(1, NONE), 1);
            due("back(0)", x.back(0), NOT);
            due("back(1)", x.back(1), NOT);
            tell(x, "letter a 9;syl a;first 9 a;hope 1 1;degrees 1");
            SumNames other = new SumNames();
            due("letter(0) of another one", other.letter(0), 1);
            due("count(0) of another one", other.count(0), 0);
        });
        section("What it is");
        sentence("An object is used for at most 512 calls after it has been made; what later calls answer is free.", () -> {
            SumNames x = new SumNames();
            for (int i = 0; i < 170; i++) {
                x.write(0x20746567726F66L | (long) ' ' << 56, 8);
                due("fault(), call " + (3 * i + 2), x.fault(), NONE);
                due("told(), call " + (3 * i + 3), x.told(), 1);
            }
            due("keep(1), call 511", x.keep(1), 0);
            due("back(1), call 512", x.back(1), 0);
        });
    }

    private static void write() {
        section("Promise 2");
        sentence("n (1 .. 8) bytes more of THE TEXT, byte i being bytes >> 8 i & 255: how many it has.", () -> {
            long forget = 0x2020746567726F66L;
            for (int n = 1; n <= 8; n++) {
                SumNames x = new SumNames();
                long above = n < 8 ? 0x5555555555555555L << 8 * n : 0;
                long bytes = n < 8 ? forget & (1L << 8 * n) - 1 | above : forget;
                due("write('forget', " + n + ")", x.write(bytes, n), n);
                if (n < 6) {
                    due("write(the rest, " + (6 - n) + ")", x.write(forget >> 8 * n, 6 - n), 6);
                }
                due("told()", x.told(), 1);
            }
            SumNames x = new SumNames();
            due("write(with the highest byte, 8)", x.write(0xFF20746567726F66L, 8), 8);
            due("fault()", x.fault(), 7);
            due("write(-1, 1)", x.write(-1, 1), 9);
            due("write(Long.MIN_VALUE, 8)", x.write(Long.MIN_VALUE, 8), 17);
        });
        sentence("OUTSIDE;", () -> {
            for (int n : new int[] {0, 9, -1, 16, 256, HUGE, LOW}) {
                refused("write(0, " + n + ")", x -> x.write(0, n), OUTSIDE);
            }
        });
        sentence("FULL.", () -> {
            for (int n = 1; n <= 8; n++) {
                int more = n;
                refused("write(.., " + n + ") with room for one fewer", () -> {
                    SumNames x = with("first 1 -;first 1 -");
                    put(x, "syl " + "x".repeat(197 - more));
                    return x;
                }, x -> x.write(0x6161616161616161L, more), FULL);
            }
            SumNames x = new SumNames();
            put(x, " ".repeat(200));
            due("write(0, 0), both", x.write(0, 0), OUTSIDE);
            due("write(0, 9), both", x.write(0, 9), OUTSIDE);
            due("erase()", x.erase(), 200);
            due("write(0, 8), empty again", x.write(0, 8), 8);
        });
    }

    private static void eraseAndFault() {
        section("Promise 3");
        sentence("THE TEXT is empty: how many bytes it had.", () -> {
            SumNames x = with("syl a");
            due("erase() of none", x.erase(), 0);
            put(x, "q");
            due("erase() of one", x.erase(), 1);
            put(x, "x".repeat(200));
            due("erase() of 200", x.erase(), 200);
            due("erase() of none again", x.erase(), 0);
            due("count(4)", x.count(4), 0);
            due("count(1), nothing else is gone", x.count(1), 1);
            tell(x, "syl b");
        });
        section("Promise 4");
        sentence("The place of the FAULT (the byte with which the TOKEN begins, or the length);", () -> {
            SumNames x = new SumNames();
            marked(x, "^", "^x", "forget ^12", "forget;forget ^abc", "forget;^", "letter x ^1234", "letter x  ^", " ".repeat(200) + "^");
            marked(x, " ".repeat(199) + "^x", "forget" + " ".repeat(193) + ";^");
            put(x, "forget;syl");
            for (int i = 0; i < 3; i++) {
                due("fault() does nothing", x.fault(), 10);
            }
            due("count(4)", x.count(4), 10);
        });
        sentence("NONE.", () -> {
            SumNames x = with("syl a");
            put(x, "forget;syl a");
            due("fault()", x.fault(), NONE);
            due("fault() once more, as nothing was done", x.fault(), NONE);
            due("count(1)", x.count(1), 1);
            due("count(4)", x.count(4), 12);
        });
    }

    private static void told() {
        section("Promise 5");
        sentence("THE TEXT's LINES are done, and it is empty then: how many there were.", () -> {
            SumNames x = new SumNames();
            for (int n = 1; n <= 8; n++) {
                put(x, times(n, "degrees 1"));
                due("told() of " + n, x.told(), n);
                due("count(4)", x.count(4), 0);
                due("told() again", x.told(), NOT);
            }
            due("count(3)", x.count(3), 1);
        });
        sentence("NOT: it has a FAULT.", () -> {
            refused("told() of what has a fault behind a good line", SumNames::told, NOT);
            refused("told() of nothing", () -> with("first 1 a;first 2 b"), SumNames::told, NOT);
            refused("told() of nine lines", () -> {
                SumNames x = with("first 1 a;first 2 b");
                put(x, "letter a 9;syl a;forget;degrees 1;hope 1 1;first 1 c;call 0 z;hope 1 1;forget");
                return x;
            }, SumNames::told, NOT);
        });
    }

    private static void letter() {
        section("Promise 6");
        sentence("The NUMBER of a LETTER (0 a .. 25 z).", () -> {
            SumNames x = with("letter a 0;letter z 99;letter m 50");
            due("letter(0)", x.letter(0), 0);
            due("letter(25)", x.letter(25), 99);
            due("letter(12)", x.letter(12), 50);
            due("letter(1)", x.letter(1), 2);
        });
        sentence("UNKNOWN.", () -> {
            for (int letter : new int[] {-1, 26, 27, 256, 97, HUGE, LOW}) {
                refused("letter(" + letter + ")", x -> x.letter(letter), UNKNOWN);
            }
        });
    }

    private static void person() {
        section("Promise 7");
        sentence("Of a PERSON: DAY (what 0), its parents as told (1, 2; NONE), a kind: 0 FIRST, 1 CHILD, 2 TWIN (3), PERSONS NEAR it, by bits (4).", () -> {
            SumNames x = with("first 1 -;first 400 -;child 1 0 9 -;child 0 1 9 -");
            int[][] rows = {{1, NONE, NONE, 0, 14}, {400, NONE, NONE, 0, 13}, {9, 1, 0, 1, 11}, {9, 0, 1, 2, 7}};
            for (int p = 0; p < 4; p++) {
                for (int what = 0; what < 5; what++) {
                    due("person(" + p + ", " + what + ")", x.person(p, what), rows[p][what]);
                }
            }
            SumNames all = with("degrees 2;first 1 -;first 1 -", times(7, "child 0 1 1 -"), times(7, "child 0 1 1 -"));
            due("person(0, 4), near all others", all.person(0, 4), 0xFFFE);
            due("person(15, 4), near all others", all.person(15, 4), 0x7FFF);
        });
        sentence("UNKNOWN;", () -> {
            for (int p : new int[] {-1, 6, 16, 32, HUGE, LOW}) {
                refused("person(" + p + ", 0)", x -> x.person(p, 0), UNKNOWN);
                refused("person(" + p + ", 5), both", x -> x.person(p, 5), UNKNOWN);
            }
            due("person(16, 4) of 16", full().person(16, 4), UNKNOWN);
            due("person(0, 0) of none", new SumNames().person(0, 0), UNKNOWN);
        });
        sentence("OUTSIDE.", () -> {
            for (int what : new int[] {-1, 5, HUGE, LOW}) {
                refused("person(0, " + what + ")", x -> x.person(0, what), OUTSIDE);
            }
        });
    }

    private static void calledAndDegrees() {
        section("Promise 8");
        sentence("What a PERSON is CALLED, as a CODE; 0: nothing.", () -> {
            SumNames x = with("first 1 a;first 1 zzzzzzzzz;first 1 -");
            due("called(0)", x.called(0), 1);
            due("called(1)", x.called(1), 7625597484986L);
            due("called(2)", x.called(2), 0);
            tell(x, "call 0 -;call 2 z");
            due("called(0)", x.called(0), 0);
            due("called(2)", x.called(2), 26);
            due("called(15)", full().called(15), 16);
        });
        sentence("UNKNOWN.", () -> {
            for (int p : new int[] {-1, 6, 16, 32, HUGE, LOW}) {
                refused("called(" + p + ")", x -> x.called(p), UNKNOWN);
            }
        });
        section("Promise 9");
        sentence("DEGREES between two;", () -> {
            SumNames x = row();
            due("degrees(0, 13), as many as there can be", x.degrees(0, 13), 14);
            due("degrees(0, 2)", x.degrees(0, 2), 1);
            due("degrees(2, 0)", x.degrees(2, 0), 1);
            due("degrees(5, 5)", x.degrees(5, 5), 0);
            tell(x, "degrees 1");
            due("degrees(0, 13), whatever is told", x.degrees(0, 13), 14);
        });
        sentence("NONE: no steps lead there.", () -> {
            SumNames x = row();
            due("degrees(15, 13)", x.degrees(15, 13), NONE);
            due("degrees(13, 15)", x.degrees(13, 15), NONE);
            due("degrees(15, 15)", x.degrees(15, 15), 0);
        });
        sentence("UNKNOWN.", () -> {
            for (int p : new int[] {-1, 6, 32, HUGE, LOW}) {
                refused("degrees(" + p + ", 0)", x -> x.degrees(p, 0), UNKNOWN);
                refused("degrees(0, " + p + ")", x -> x.degrees(0, p), UNKNOWN);
                refused("degrees(" + p + ", " + p + ")", x -> x.degrees(p, p), UNKNOWN);
            }
        });
    }

    private static void as() {
        section("Promise 10");
        sentence("A PERSON taken as a kind: 0 any, 1 FIRST, 2 CHILD (also a TWIN), 3 TWIN: how many are NEAR it.", () -> {
            SumNames x = with("first 1 -;first 1 -;child 0 1 1 -;child 0 1 1 -;first 1 -");
            int[][] rows = {{3, 3, NOT, NOT}, {3, 3, NOT, NOT}, {3, NOT, 3, NOT}, {3, NOT, 3, 3}, {0, 0, NOT, NOT}};
            for (int p = 0; p < rows.length; p++) {
                for (int kind = 0; kind < 4; kind++) {
                    due("as(" + p + ", " + kind + ")", x.as(p, kind), rows[p][kind]);
                }
            }
            SumNames all = with("degrees 2;first 1 -;first 1 -", times(7, "child 0 1 1 -"), times(7, "child 0 1 1 -"));
            due("as(15, 3), near all others", all.as(15, 3), 15);
        });
        sentence("UNKNOWN;", () -> {
            for (int p : new int[] {-1, 6, 32, HUGE, LOW}) {
                refused("as(" + p + ", 0)", x -> x.as(p, 0), UNKNOWN);
                refused("as(" + p + ", 4), both", x -> x.as(p, 4), UNKNOWN);
            }
        });
        sentence("OUTSIDE;", () -> {
            for (int kind : new int[] {-1, 4, HUGE, LOW}) {
                refused("as(0, " + kind + ")", x -> x.as(0, kind), OUTSIDE);
            }
        });
        sentence("NOT: it is none such.", () -> {
            refused("as(0, 2), a first one", x -> x.as(0, 2), NOT);
            refused("as(0, 3), a first one", x -> x.as(0, 3), NOT);
            refused("as(2, 1), a child", x -> x.as(2, 1), NOT);
            refused("as(2, 3), a child, the elder twin", x -> x.as(2, 3), NOT);
            refused("as(3, 1), a twin", x -> x.as(3, 1), NOT);
        });
    }
}
