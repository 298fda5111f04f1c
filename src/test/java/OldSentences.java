/** The document's sentences on old names, reforms, nicknames and pages; promises 21 to 24. */
final class OldSentences extends Sentences {
    private static final int[] NO_PERSONS = {-1, 6, 16, 32, HUGE, LOW};

    private OldSentences() {
    }

    static void all() {
        section("Terms");
        oldNames();
        reforms();
        nicknamesOf();
        pages();
        old();
        reform();
        nicknames();
        page();
    }

    private static void reformed(SumNames x, int person, int letter, int number, int anew) {
        due("reform(" + person + ", 0)", x.reform(person, 0), letter);
        due("reform(" + person + ", 1)", x.reform(person, 1), number);
        due("reform(" + person + ", 2)", x.reform(person, 2), anew);
    }

    private static void nicknamed(SumNames x, int person, int many, String least) {
        due("nicknames(" + person + ", 0)", x.nicknames(person, 0), many);
        due("nicknames(" + person + ", 1)", x.nicknames(person, 1), least.isEmpty() ? NONE : code(least));
    }

    private static void paged(SumNames x, int people, int sum, int many, int first) {
        due("page(" + people + ", " + sum + ", 0)", x.page(people, sum, 0), many);
        due("page(" + people + ", " + sum + ", 1)", x.page(people, sum, 1), first);
    }

    private static void oldNames() {
        sentence("OLD NAMES: of all NUMBERS 1 to n (1 .. 9) for the LETTERS of all that PERSONS are CALLED", () -> {
            SumNames x = with("letter a 0;first 9 a;first 7 -");
            for (int n = 1; n <= 8; n++) {
                due("old(" + n + ", NONE), a must be 9", x.old(n, NONE), 0);
            }
            due("old(9, NONE)", x.old(9, NONE), 1);
            due("old(9, 0)", x.old(9, 0), 9);
            tell(x, "call 1 z");
            due("old(9, 25)", x.old(9, 25), 7);
            tell(x, "call 0 b;forget;first 1 a");
            due("old(1, NONE), a is 1", x.old(1, NONE), 1);
            tell(x, "first 1 bb");
            due("old(9, NONE), b would be less than 1", x.old(9, NONE), 0);
            tell(x, "forget;first 81 aaaaaaaaa");
            due("old(9, NONE), the greatest", x.old(9, NONE), 1);
            due("old(8, NONE)", x.old(8, NONE), 0);
            tell(x, "forget;first 82 aaaaaaaaa");
            due("old(9, NONE), a would be above 9", x.old(9, NONE), 0);
            due("old(1, NONE), nobody is called", new SumNames().old(1, NONE), 1);
        });
        sentence("(5 unlike ones at most, else it cannot be told)", () -> {
            SumNames x = with("first 45 abcde;first 45 edcba;first 9 a");
            due("old(9, NONE) of 5 letters", x.old(9, NONE), 1);
            due("old(9, 4)", x.old(9, 4), 9);
            tell(x, "first 9 z");
            due("old(9, NONE) of 6 letters", x.old(9, NONE), NOT);
            due("old(1, 0) of 6 letters", x.old(1, 0), NOT);
            tell(x, "call 3 -");
            due("old(9, NONE) of 5 letters again", x.old(9, NONE), 1);
        });
        sentence("those by which each SUM is the DAY: how many,", () -> {
            SumNames x = with("first 18 ab");
            due("old(9, NONE): 9 9", x.old(9, NONE), 1);
            tell(x, "forget;first 2 ab");
            due("old(9, NONE): 1 1", x.old(9, NONE), 1);
            tell(x, "forget;first 1 ab");
            due("old(9, NONE), too few", x.old(9, NONE), 0);
            tell(x, "forget;first 19 ab");
            due("old(9, NONE), too many", x.old(9, NONE), 0);
            tell(x, "forget;first 10 ab;first 10 ba");
            due("old(9, NONE): 1 9 to 9 1", x.old(9, NONE), 9);
            tell(x, "first 11 ab");
            due("old(9, NONE), at odds", x.old(9, NONE), 0);
            tell(x, "forget;first 25 abcde");
            due("old(9, NONE) of five", x.old(9, NONE), 3951);
            SumNames all = with("first 2 a;first 4 aa;first 6 aaa;first 8 aaaa;first 3 b;first 6 bb;first 5 ab;first 18 aaaaaaaaa",
                "first 7 aab;first 8 bba;first 9 c;first 11 ca;first 12 cb;first 14 cab;first 9 d;first 10 de");
            due("old(9, NONE) of 16", all.old(9, NONE), 1);
            tell(all, "call 15 d");
            due("old(9, NONE) of 16 that are at odds", all.old(9, NONE), 0);
            tell(all, "forget;first 2 edcba");
            due("old(9, NONE), too few", all.old(9, NONE), 0);
            tell(all, "forget;first 25 edcba");
            due("old(9, NONE), nothing is left of those forgotten", all.old(9, NONE), 3951);
        });
        sentence("the first (by the NUMBER of the first LETTER, then of the next).", () -> {
            SumNames x = with("first 25 edcba");
            int[] first = {1, 1, 5, 9, 9};
            for (int letter = 0; letter < 5; letter++) {
                due("old(9, " + letter + ")", x.old(9, letter), first[letter]);
            }
            tell(x, "forget;first 12 zm");
            due("old(9, m)", x.old(9, 12), 3);
            due("old(9, z)", x.old(9, 25), 9);
        });
    }

    private static void reforms() {
        sentence("REFORM for a PERSON that is CALLED something: one LETTER (of it or not) gets another NUMBER than it has (1 .. 99), "
            + "by which its SUM is its DAY:", () -> {
            SumNames x = with("first 99 a;first 100 a;first 198 aa;first 200 aa;first 5 aa;first 6 aa;first 18 aaaaaaaaa;first 19 aaaaaaaaa");
            int[][] rows = {{0, 99}, {NONE, NONE}, {0, 99}, {NONE, NONE}, {NONE, NONE}, {0, 3}, {0, 2}, {NONE, NONE}};
            for (int p = 0; p < rows.length; p++) {
                reformed(x, p, rows[p][0], rows[p][1], rows[p][0] == NONE ? NONE : 0);
            }
            // down to 1, not to 0; another number than it has, by a letter that is not in it
            SumNames low = with("letter e 5;first 1 e;first 2 ab;first 1 ab;first 3 ab;first 1 a;first 26 z");
            reformed(low, 0, 4, 1, 0);
            reformed(low, 1, 1, 1, 1);
            reformed(low, 2, NONE, NONE, NONE);
            reformed(low, 3, 2, 1, 0);
            reformed(low, 4, 2, 1, 0);
            reformed(low, 5, 2, 1, 0);
            due("letter(4) has the number that it had", low.letter(4), 5);
            SumNames zero = with("letter a 0;first 99 a;first 9 b");
            reformed(zero, 0, 0, 99, 0);
            reformed(zero, 1, 1, 9, 0);
        });
        sentence("that by which the fewest of all others whose SUM is their DAY now have not that then;", () -> {
            // abc wants 14 more; a adds up, aa too, bb too, c not, one called nothing
            SumNames x = with("first 20 abc;first 1 a;first 2 aa;first 4 bb;first 9 c;first 9 cc;first 3 -");
            reformed(x, 0, 2, 17, 0);
            tell(x, "call 4 ccc;call 6 c");
            reformed(x, 0, 1, 16, 1);
            tell(x, "call 3 -;call 4 -;call 6 -;call 1 b;call 2 c");
            reformed(x, 0, 0, 15, 0);
            SumNames most = with("first 9 a;" + times(7, "first 1 a"), times(8, "first 1 a"));
            reformed(most, 0, 0, 9, 15);
            tell(most, "call 15 b");
            reformed(most, 0, 0, 9, 14);
        });
        sentence("of several the first LETTER, then the least NUMBER;", () -> {
            reformed(with("first 20 cba"), 0, 0, 15, 0);
            reformed(with("first 20 zy"), 0, NONE, NONE, NONE);
            reformed(with("first 60 zy"), 0, 24, 34, 0);
            reformed(with("first 2 b"), 0, 0, 2, 0);
            reformed(with("letter a 0;first 2 b"), 0, 0, 1, 0);
            reformed(with("letter a 99;first 2 b"), 0, 0, 1, 0);
            reformed(with("first 1 a;first 2 b"), 0, 2, 1, 0);
            reformed(with("letter z 1;first 325 abcdefghi;first 1 a"), 0, NONE, NONE, NONE);
        });
        sentence("none.", () -> {
            reformed(with("first 400 a"), 0, NONE, NONE, NONE);
            reformed(with("first 1 ab"), 0, NONE, NONE, NONE);
            reformed(with("first 3 bb"), 0, NONE, NONE, NONE);
        });
    }

    private static void nicknamesOf() {
        sentence("NICKNAMES of a PERSON: unlike WORDS,", () -> {
            nicknamed(with("syl a;first 6 aaaaaaaaa"), 0, 3, "a");
            // a; b, aa; ab, ba, aaa; bbb
            nicknamed(with("syl a;syl b;first 6 ababab"), 0, 7, "a");
            nicknamed(with("syl a;syl aa;first 6 aaa"), 0, 2, "a");
        });
        sentence("what it is CALLED with some LETTERS left out (one at least, not all),", () -> {
            nicknamed(with("syl a;first 1 a"), 0, 0, "");
            nicknamed(with("syl a;first 2 aa"), 0, 1, "a");
            nicknamed(with("syl ab;first 3 ab"), 0, 0, "");
            nicknamed(with("syl ab;first 3 abb"), 0, 1, "ab");
            nicknamed(with("syl ab;first 3 ba"), 0, 0, "");
            nicknamed(with("syl ai;first 10 abcdefghi"), 0, 1, "ai");
            nicknamed(with("syl abc;syl def;syl ghi;first 36 abcdefghi"), 0, 1, "abc");
            nicknamed(with("syl abc;syl def;syl gh;first 36 abcdefghi"), 0, 2, "abc");
        });
        sentence("that are NAMES and whose SUM divides its DAY:", () -> {
            // a 1, aa 2, aaa 3; aaaa is no name
            nicknamed(with("syl a;first 12 aaaaa"), 0, 3, "a");
            nicknamed(with("syl a;first 5 aaaaa"), 0, 1, "a");
            nicknamed(with("syl aa;first 4 aaaaaaa"), 0, 2, "aa");
            nicknamed(with("syl aa;first 1 aaaaaaa"), 0, 0, "");
            nicknamed(with("syl b;syl c;first 400 bc"), 0, 1, "b");
            nicknamed(with("syl z;letter z 99;first 99 zz"), 0, 1, "z");
            nicknamed(with("syl z;letter z 99;first 98 zz"), 0, 0, "");
            nicknamed(with("syl a;syl b;letter a 0;first 2 ab"), 0, 1, "b");
            nicknamed(with("first 6 ab"), 0, 0, "");
        });
        sentence("how many, the least by CODES.", () -> {
            nicknamed(with("syl b;syl a;syl ba;first 6 bab"), 0, 4, "a");
            nicknamed(with("syl z;syl ab;first 78 abz"), 0, 2, "z");
            nicknamed(with("syl ba;syl ab;first 3 bab"), 0, 2, "ab");
            nicknamed(with("syl z;letter z 1;first 400 zzzzzzzzz"), 0, 2, "z");
            nicknamed(with("syl a;syl b;first 4 bb"), 0, 1, "b");
            // all 1110 names divide the day
            nicknamed(with("letter a 1;letter b 1;letter c 1;letter d 1;letter e 1;letter f 1;letter g 1;letter h 1",
                "letter i 1;letter j 1;syl a;syl b;syl c;syl d;syl e;syl f", "syl g;syl h;syl i;syl j;first 6 jjjj"), 0, 3, "j");
        });
    }

    /** Sixteen called by nine letters, and all letters are 1. */
    private static SumNames alike() {
        SumNames x = new SumNames();
        for (char c = 'a'; c <= 'z'; c++) {
            tell(x, "letter " + c + " 1");
        }
        for (int p = 0; p < 16; p++) {
            tell(x, "first 9 abcdefghi");
        }
        return x;
    }

    private static void pages() {
        sentence("A PAGE of PERSONS that are CALLED something (as a set), and a told sum of all:", () -> {
            SumNames x = with("first 9 c;first 9 -;first 9 f;first 9 i");
            paged(x, 0, 0, 0, NONE);
            paged(x, 1, 4, 1, 0);
            paged(x, 4, 7, 1, 2);
            paged(x, 8, 10, 1, 3);
            paged(x, 13, 19, 3, 0);
            paged(x, 12, 16, 2, 2);
            due("page(2, 1, 0), called nothing", x.page(2, 1, 0), NOT);
            due("page(15, 1, 0), one called nothing", x.page(15, 1, 0), NOT);
        });
        sentence("by how many changes of one LETTER of one of them into another one (of a NUMBER above 0) all SUMS together are so;", () -> {
            SumNames x = with("letter y 2;letter x 0;first 1 abc;first 1 x;first 1 aa");
            paged(x, 1, 6, 1, 0);
            paged(x, 1, 5, 3, 0);
            paged(x, 1, 3, 0, NONE);
            paged(x, 2, 0, 0, NONE);
            paged(x, 2, 1, 1, 1);
            paged(x, 2, 26, 1, 1);
            paged(x, 2, 27, 0, NONE);
            paged(x, 4, 2, 0, NONE);
            paged(x, 4, 3, 4, 2);
            paged(x, 4, 27, 2, 2);
            paged(x, 4, 28, 0, NONE);
            SumNames most = alike();
            paged(most, 1, 9, 225, 0);
            paged(most, 65535, 144, 3600, 0);
            paged(most, 65535, 143, 0, NONE);
            paged(most, 65535, 145, 0, NONE);
        });
        sentence("of whom the first (by PERSONS) is;", () -> {
            SumNames x = with("letter z 90;first 1 a;first 1 z;first 1 a;first 1 z");
            // a z into an a
            paged(x, 15, 93, 2, 1);
            paged(x, 13, 3, 1, 3);
            // an a into a b
            paged(x, 13, 93, 2, 0);
            paged(x, 12, 92, 1, 2);
            paged(alike(), 32768, 9, 225, 15);
        });
        sentence("none.", () -> {
            SumNames x = with("first 1 a;first 1 b");
            paged(x, 3, 3, 0, NONE);
            paged(x, 3, 9999, 0, NONE);
            paged(x, 3, 0, 0, NONE);
            paged(x, 0, 9999, 0, NONE);
        });
    }

    private static void old() {
        section("Promise 21");
        sentence("OLD NAMES: how many (letter NONE), the NUMBER of a LETTER in the first", () -> {
            SumNames x = with("first 12 az");
            due("old(9, NONE)", x.old(9, NONE), 7);
            due("old(9, 0)", x.old(9, 0), 3);
            due("old(9, 25)", x.old(9, 25), 9);
            due("old(6, NONE)", x.old(6, NONE), 1);
        });
        sentence("(NONE: there is no such way, whatever the LETTER; 0: it is in none).", () -> {
            SumNames x = with("first 12 az");
            for (int letter = 0; letter < 26; letter++) {
                due("old(5, " + letter + "), no way", x.old(5, letter), NONE);
                due("old(6, " + letter + ")", x.old(6, letter), letter == 0 || letter == 25 ? 6 : 0);
                due("old(9, " + letter + "), nobody is called", new SumNames().old(9, letter), 0);
                due("old(9, " + letter + ") of five", with("first 45 vwxyz").old(9, letter), letter < 21 ? 0 : 9);
            }
        });
        sentence("UNKNOWN;", () -> {
            for (int letter : new int[] {-2, 26, 27, HUGE, LOW}) {
                refused("old(9, " + letter + ")", x -> x.old(9, letter), UNKNOWN);
                refused("old(0, " + letter + "), both", x -> x.old(0, letter), UNKNOWN);
                refused("old(9, " + letter + ") of many letters", Sentences::full, x -> x.old(9, letter), UNKNOWN);
            }
        });
        sentence("OUTSIDE;", () -> {
            for (int n : new int[] {0, 10, -1, HUGE, LOW}) {
                refused("old(" + n + ", 0)", x -> x.old(n, 0), OUTSIDE);
                refused("old(" + n + ", NONE)", x -> x.old(n, NONE), OUTSIDE);
                refused("old(" + n + ", 0) of many letters, both", Sentences::full, x -> x.old(n, 0), OUTSIDE);
            }
        });
        sentence("NOT: more than 5 LETTERS.", () -> {
            refused("old(9, NONE) of 16 letters", Sentences::full, x -> x.old(9, NONE), NOT);
            refused("old(1, 25) of 16 letters", Sentences::full, x -> x.old(1, 25), NOT);
            refused("old(9, NONE) of 6 letters", () -> with("first 6 abcdef;first 1 a"), x -> x.old(9, NONE), NOT);
            due("old(9, NONE) of 5 letters", with("first 5 abcdeabcd;first 1 e").old(9, NONE), 0);
        });
    }

    private static void reform() {
        section("Promise 22");
        sentence("REFORM: the LETTER (what 0), its NUMBER (1), how many are called anew (2); NONE.", () -> {
            reformed(with("first 30 z;first 26 z"), 0, 25, 30, 1);
            reformed(with("first 26 z;first 30 z"), 1, 25, 30, 1);
            reformed(with("first 100 z;first 26 z"), 0, NONE, NONE, NONE);
        });
        sentence("UNKNOWN;", () -> {
            for (int p : NO_PERSONS) {
                refused("reform(" + p + ", 0)", x -> x.reform(p, 0), UNKNOWN);
                refused("reform(" + p + ", 3), both", x -> x.reform(p, 3), UNKNOWN);
            }
        });
        sentence("OUTSIDE;", () -> {
            for (int what : new int[] {-1, 3, HUGE, LOW}) {
                refused("reform(0, " + what + ")", x -> x.reform(0, what), OUTSIDE);
                refused("reform(3, " + what + "), both", x -> x.reform(3, what), OUTSIDE);
            }
        });
        sentence("NOT: it is CALLED nothing.", () -> {
            for (int what = 0; what < 3; what++) {
                int asked = what;
                refused("reform(3, " + what + ")", x -> x.reform(3, asked), NOT);
            }
        });
    }

    private static void nicknames() {
        section("Promise 23");
        sentence("NICKNAMES: how many (what 0), the least (1; NONE).", () -> {
            SumNames x = with("syl a;syl b;first 2 ba;first 7 c");
            nicknamed(x, 0, 2, "a");
            nicknamed(x, 1, 0, "");
        });
        sentence("UNKNOWN;", () -> {
            for (int p : NO_PERSONS) {
                refused("nicknames(" + p + ", 0)", x -> x.nicknames(p, 0), UNKNOWN);
                refused("nicknames(" + p + ", 2), both", x -> x.nicknames(p, 2), UNKNOWN);
            }
        });
        sentence("OUTSIDE;", () -> {
            for (int what : new int[] {-1, 2, HUGE, LOW}) {
                refused("nicknames(0, " + what + ")", x -> x.nicknames(0, what), OUTSIDE);
                refused("nicknames(3, " + what + "), both", x -> x.nicknames(3, what), OUTSIDE);
            }
        });
        sentence("NOT.", () -> {
            refused("nicknames(3, 0), called nothing", x -> x.nicknames(3, 0), NOT);
            refused("nicknames(3, 1), called nothing", x -> x.nicknames(3, 1), NOT);
        });
    }

    private static void page() {
        section("Promise 24");
        sentence("A PAGE: how many (what 0), of whom the first is (1; NONE).", () -> {
            SumNames x = with("first 1 a;first 1 b");
            paged(x, 3, 4, 2, 0);
            paged(x, 2, 1, 1, 1);
            paged(x, 1, 1, 0, NONE);
        });
        sentence("OUTSIDE: people by bits of PERSONS that there are, sum (0 .. 9999), what;", () -> {
            for (int people : new int[] {64, 65, 65536, 128, -1, LOW, HUGE, 1 << 31 | 1}) {
                refused("page(" + people + ", 5, 0)", x -> x.page(people, 5, 0), OUTSIDE);
            }
            refused("page(65536, 5, 0) of 16", Sentences::full, x -> x.page(65536, 5, 0), OUTSIDE);
            due("page(65535, 9999, 0) of 16", full().page(65535, 9999, 0), 0);
            due("page(1, 0, 0) of none", new SumNames().page(1, 0, 0), OUTSIDE);
            due("page(0, 0, 0) of none", new SumNames().page(0, 0, 0), 0);
            for (int sum : new int[] {-1, 10000, HUGE, LOW}) {
                refused("page(1, " + sum + ", 0)", x -> x.page(1, sum, 0), OUTSIDE);
            }
            for (int what : new int[] {-1, 2, HUGE, LOW}) {
                refused("page(1, 5, " + what + ")", x -> x.page(1, 5, what), OUTSIDE);
            }
            refused("page(72, 5, 0), both", x -> x.page(72, 5, 0), OUTSIDE);
            refused("page(8, -1, 0), both", x -> x.page(8, -1, 0), OUTSIDE);
            refused("page(8, 5, 2), both", x -> x.page(8, 5, 2), OUTSIDE);
        });
        sentence("NOT: one is CALLED nothing.", () -> {
            refused("page(8, 5, 0)", x -> x.page(8, 5, 0), NOT);
            refused("page(63, 5, 1)", x -> x.page(63, 5, 1), NOT);
            refused("page(9, 9999, 0)", x -> x.page(9, 9999, 0), NOT);
        });
    }
}
