/** Each promise by its number: ordinary calls, the edges that the document names, and wrong ones; answers worked out by hand. */
public final class PromisesTest extends Answers {
    public static void main(String[] args) {
        newObject();
        write();
        erase();
        faultOfGrammar();
        faultOfBounds();
        faultByLinesAhead();
        told();
        letter();
        person();
        called();
        degrees();
        as();
        sum();
        name();
        judge();
        taker();
        names();
        which();
        free();
        hopes();
        without();
        mend();
        old();
        reform();
        nicknames();
        page();
        sheet();
        tear();
        lay();
        copy();
        hope();
        keepAndBack();
        count();
        fullRun();
        finish();
    }

    private static void newObject() {
        where = "promise 1";
        SumNames x = new SumNames();
        for (int i = 0; i < 26; i++) {
            due("letter(" + i + ")", x.letter(i), i + 1);
        }
        int[] counts = {0, 0, 0, 3, 0, NONE, NONE, NONE};
        for (int i = 0; i < 8; i++) {
            due("count(" + i + ")", x.count(i), counts[i]);
        }
        due("back(0)", x.back(0), NOT);
        due("back(1)", x.back(1), NOT);
        due("judge(0)", x.judge(0), UNKNOWN);
        SumNames other = with("syl a");
        due("count(1)", other.count(1), 1);
        due("count(1) of another object", x.count(1), 0);
    }

    private static void write() {
        where = "promise 2";
        SumNames x = new SumNames();
        due("write(0, 0)", x.write(0, 0), OUTSIDE);
        due("write(0, 9)", x.write(0, 9), OUTSIDE);
        due("write(0, -1)", x.write(0, -1), OUTSIDE);
        due("write(0, HUGE)", x.write(0, HUGE), OUTSIDE);
        due("write('f', 1) with more above", x.write(0x5555555555555566L, 1), 1);
        due("write('orget', 5)", x.write(0xFFFFFF746567726FL, 5), 6);
        due("fault()", x.fault(), NONE);
        due("write(byte 255, 1)", x.write(-1, 1), 7);
        due("fault()", x.fault(), 6);
        for (int n = 15; n <= 199; n += 8) {
            due("write(blanks, 8)", x.write(0x2020202020202020L, 8), n);
        }
        due("write(0, 2) at 199", x.write(0, 2), FULL);
        due("write(0, 0) at 199", x.write(0, 0), OUTSIDE);
        due("count(4)", x.count(4), 199);
        due("write(0, 1) at 199", x.write(0, 1), 200);
        due("write(0, 1) at 200", x.write(0, 1), FULL);
        due("count(4)", x.count(4), 200);
        due("eight bytes, the last with its sign", new SumNames().write(Long.MIN_VALUE, 8), 8);
    }

    private static void erase() {
        where = "promise 3";
        SumNames x = new SumNames();
        due("erase()", x.erase(), 0);
        put(x, "syl abc;bad");
        due("erase()", x.erase(), 11);
        due("count(4)", x.count(4), 0);
        due("erase()", x.erase(), 0);
        put(x, "syl a");
        due("told()", x.told(), 1);
        due("count(1)", x.count(1), 1);
    }

    private static void faultOfGrammar() {
        where = "promise 4";
        SumNames x = with("first 6 abc;first 5 -;syl a");
        faultAt(x, "", 0);
        faultAt(x, "   ", 3);
        faultAt(x, "forget", NONE);
        faultAt(x, " forget  ", NONE);
        faultAt(x, "forget;", 7);
        faultAt(x, "forget; ", 8);
        faultAt(x, ";", 0);
        faultAt(x, "forget;;forget", 7);
        faultAt(x, "forgets", 0);
        faultAt(x, "forge", 0);
        faultAt(x, "Forget", 0);
        faultAt(x, "xorget", 0);
        faultAt(x, "forgeT", 0);
        faultAt(x, "5", 0);
        faultAt(x, "forget forget", 7);
        faultAt(x, "forget5", 6);
        faultAt(x, "forget.", 6);
        faultAt(x, "forget\tforget", 6);
        faultAt(x, "forget" + (char) 0, 6);
        faultAt(x, "forget" + (char) 233, 6);
        faultAt(x, "letter x5", NONE);
        faultAt(x, "letterx5", 0);
        faultAt(x, "letter", 6);
        faultAt(x, "letter ", 7);
        faultAt(x, "letter x", 8);
        faultAt(x, "letter x -", 9);
        faultAt(x, "letter x y", 9);
        faultAt(x, "letter xy 5", 7);
        faultAt(x, "letter 5", 7);
        faultAt(x, "letter - 5", 7);
        faultAt(x, "letter x 5 6", 11);
        faultAt(x, "letter X 5", 7);
        faultAt(x, "first12abc", NONE);
        faultAt(x, "first12-", NONE);
        faultAt(x, "first 12--", 9);
        faultAt(x, "first abc", 6);
        faultAt(x, "first 12 3", 9);
        faultAt(x, "first 12;", 8);
        faultAt(x, "first 12", 8);
        faultAt(x, "call0abc;call 1-", NONE);
        faultAt(x, "call - abc", 5);
        faultAt(x, "call 0 -a", 8);
        faultAt(x, "child 0 1 7 z", NONE);
        faultAt(x, "child 1 0 7-", NONE);
        faultAt(x, "child 01 7 z", 9);
        faultAt(x, "hope 5", 6);
        faultAt(x, "hope 5 5", NONE);
        faultAt(x, "hope 55", 7);
        faultAt(x, "hope 5 a", 7);
        faultAt(x, "degrees", 7);
        faultAt(x, "degrees 2", NONE);
        faultAt(x, "syl", 3);
        faultAt(x, "syl -", 4);
        faultAt(x, "syl 1", 4);
        faultAt(x, "syl b c", 6);
        String seven = "forget;forget;forget;forget;forget;forget;forget";
        faultAt(x, seven, NONE);
        faultAt(x, seven + ";forget", NONE);
        faultAt(x, seven + ";forget ;", 56);
        faultAt(x, seven + ";forget;forget", 55);
        faultAt(x, seven + ";forge", 49);
        due("count(0), as fault() does nothing", x.count(0), 2);
        due("count(1), as fault() does nothing", x.count(1), 1);
    }

    private static void faultOfBounds() {
        where = "promise 4";
        SumNames x = with("first 6 abc;first 5 -");
        faultAt(x, "letter x 0", NONE);
        faultAt(x, "letter x 99", NONE);
        faultAt(x, "letter x 100", 9);
        faultAt(x, "letter x 007", NONE);
        faultAt(x, "letter x 0007", 9);
        faultAt(x, "letter x 99999999999999999999999999999999999999", 9);
        // 2 to the power of 64 and 5: what is left of it by wrapping around is 5
        faultAt(x, "letter x 18446744073709551621", 9);
        faultAt(x, "syl abc", NONE);
        faultAt(x, "syl abcd", 4);
        faultAt(x, "first 1 a", NONE);
        faultAt(x, "first 0 a", 6);
        faultAt(x, "first 000 a", 6);
        faultAt(x, "first 400 abcdefghi", NONE);
        faultAt(x, "first 401 a", 6);
        faultAt(x, "first 0400 a", 6);
        faultAt(x, "first 1 abcdefghij", 8);
        faultAt(x, "call 0 abcdefghi", NONE);
        faultAt(x, "call 0 abcdefghij", 7);
        faultAt(x, "call 2 a", 5);
        faultAt(x, "call 01 a", NONE);
        faultAt(x, "call 001 a", NONE);
        faultAt(x, "call 0001 a", 5);
        faultAt(x, "child 0 0 5 a", 8);
        faultAt(x, "child 0 00 5 a", 8);
        faultAt(x, "child 2 0 5 a", 6);
        faultAt(x, "child 0 2 5 a", 8);
        faultAt(x, "child 0 1 0 a", 10);
        faultAt(x, "child 0 1 401 a", 10);
        faultAt(x, "child 0 1 400 abcdefghij", 14);
        faultAt(x, "hope 0 5", 5);
        faultAt(x, "hope 400 10", NONE);
        faultAt(x, "hope 401 5", 5);
        faultAt(x, "hope 5 0", NONE);
        faultAt(x, "hope 5 11", 7);
        faultAt(x, "degrees 1", NONE);
        faultAt(x, "degrees 4", NONE);
        faultAt(x, "degrees 0", 8);
        faultAt(x, "degrees 5", 8);
        SumNames empty = new SumNames();
        faultAt(empty, "call 0 a", 5);
        faultAt(empty, "child 0 1 5 a", 6);
        faultAt(with("first 1 a"), "child 0 1 5 a", 8);
    }

    private static void faultByLinesAhead() {
        where = "promise 4";
        SumNames x = new SumNames();
        faultAt(x, "first 1 a;call 0 b", NONE);
        faultAt(x, "call 0 b;first 1 a", 5);
        faultAt(x, "first 1 a;first 2 b;child 0 1 3 c;call 2 d", NONE);
        faultAt(x, "first 1 a;child 0 1 3 c", 18);
        faultAt(x, "first 1 a;forget;call 0 b", 22);
        faultAt(x, "syl ab;syl ab", 11);
        faultAt(x, "syl ab;syl ba;syl a;syl b;syl abb", NONE);
        faultAt(x, "syl ab;forget;syl ab", NONE);
        tell(x, "syl ab");
        faultAt(x, "syl ab", 4);
        faultAt(x, "syl ab;call 9 a", 4);
        tell(x, "syl a;syl b;syl c;syl d;syl e;syl f;syl g;syl h");
        due("count(1)", x.count(1), 9);
        faultAt(x, "syl i;syl j", 10);
        faultAt(x, "syl i;syl", 9);
        faultAt(x, "syl i;syl;", 9);
        faultAt(x, "syl i", NONE);
        tell(x, "hope 1 1;hope 1 1;hope 2 2;hope 3 3;hope 4 4");
        faultAt(x, "hope 5 5;hope 6 6", 9);
        faultAt(x, "hope 5 5;hope", 9);
        faultAt(x, "hope 5 5; forget;hope 6 6", NONE);
        String two = "first 1 -;first 1 -;";
        tell(x, two + two + two + "first 1 -;first 1 -", two + two + "first 1 -;first 1 -;first 1 -");
        due("count(0)", x.count(0), 15);
        faultAt(x, "first 1 -;first 1 -", 10);
        faultAt(x, "first 1 -;child 0 1 1 -", 10);
        faultAt(x, "first 1 -;call 15 a", NONE);
        faultAt(x, "call 15 a", 5);
        tell(x, "child 0 1 1 -");
        faultAt(x, "first", 0);
        faultAt(x, "  child 0 1 1 -", 2);
        faultAt(x, "forget;first 1 -", NONE);
    }

    private static void told() {
        where = "promise 5";
        SumNames x = new SumNames();
        due("told() of nothing", x.told(), NOT);
        put(x, "letter a 9;syl xyz;first 3 a;hope 2 2;degrees 1;call 1 b");
        due("told()", x.told(), NOT);
        due("count(4)", x.count(4), 56);
        due("letter(0)", x.letter(0), 1);
        int[] counts = {0, 0, 0, 3};
        for (int i = 0; i < 4; i++) {
            due("count(" + i + ")", x.count(i), counts[i]);
        }
        x.erase();
        tell(x, "letter a 9;syl xyz;first 3 a;hope 2 2;degrees 1;call 0 b");
        due("letter(0)", x.letter(0), 9);
        int[] then = {1, 1, 1, 1, 0};
        for (int i = 0; i < 5; i++) {
            due("count(" + i + ")", x.count(i), then[i]);
        }
        due("called(0)", x.called(0), 2);
        tell(x, "letter a 0;letter a 5;letter z 99");
        due("letter(0), by the last line", x.letter(0), 5);
        due("letter(25)", x.letter(25), 99);
        tell(x, "forget");
        int[] last = {0, 0, 0, 1, 0};
        for (int i = 0; i < 5; i++) {
            due("count(" + i + ") forgotten", x.count(i), last[i]);
        }
        due("letter(25) is not forgotten", x.letter(25), 99);
        due("told() again of nothing", x.told(), NOT);
    }

    private static void letter() {
        where = "promise 6";
        SumNames x = with("letter b 0;letter z 99");
        due("letter(0)", x.letter(0), 1);
        due("letter(1)", x.letter(1), 0);
        due("letter(25)", x.letter(25), 99);
        due("letter(26)", x.letter(26), UNKNOWN);
        due("letter(-1)", x.letter(-1), UNKNOWN);
        due("letter(HUGE)", x.letter(HUGE), UNKNOWN);
        due("letter(LOW)", x.letter(LOW), UNKNOWN);
    }

    /** 0, 1 first; 2, 3 children of both, 3 the other way about on the same day; 4 on another day; 5 alone; 6 of 4 and 5; 7 of 6 and 5. */
    private static SumNames family() {
        return with("first 6 abc;first 9 -;child 1 0 20 a;child 0 1 20 b;child 0 1 21 c;first 30 d;child 4 5 40 e;child 6 5 40 a");
    }

    private static void person() {
        where = "promise 7";
        SumNames x = family();
        int[][] rows = {{6, NONE, NONE, 0}, {9, NONE, NONE, 0}, {20, 1, 0, 1}, {20, 0, 1, 2}, {21, 0, 1, 1}, {30, NONE, NONE, 0}, {40, 4, 5, 1}, {40, 6, 5, 1}};
        for (int p = 0; p < 8; p++) {
            for (int what = 0; what < 4; what++) {
                due("person(" + p + ", " + what + ")", x.person(p, what), rows[p][what]);
            }
        }
        due("person(0, 4), 3 degrees", x.person(0, 4), 0b11111110);
        due("person(2, 4), 3 degrees", x.person(2, 4), 0b01011011);
        tell(x, "degrees 1");
        due("person(0, 4), 1 degree", x.person(0, 4), 0b00011100);
        due("person(5, 4), 1 degree", x.person(5, 4), 0b11000000);
        tell(x, "degrees 2");
        due("person(5, 4), 2 degrees", x.person(5, 4), 0b11010000);
        tell(x, "degrees 4;first 1 -");
        due("person(2, 4), 4 degrees", x.person(2, 4), 0b11111011);
        due("person(8, 4), alone", x.person(8, 4), 0);
        due("person(9, 0)", x.person(9, 0), UNKNOWN);
        due("person(-1, 0)", x.person(-1, 0), UNKNOWN);
        due("person(9, 5)", x.person(9, 5), UNKNOWN);
        due("person(0, 5)", x.person(0, 5), OUTSIDE);
        due("person(0, -1)", x.person(0, -1), OUTSIDE);
        SumNames third = with("first 1 -;first 1 -;first 1 -;child 0 1 5 -;child 0 2 5 -;child 1 0 5 -;child 0 1 5 -");
        due("other parents are no twins", third.person(4, 3), 1);
        due("twin", third.person(5, 3), 2);
        due("a third one is a twin, too", third.person(6, 3), 2);
        SumNames half = with("first 1 -;first 1 -;first 1 -;child 1 0 5 -;child 0 2 5 -;child 2 1 5 -");
        due("one parent in its place is not enough", half.person(4, 3), 1);
        due("nor is one in the other's", half.person(5, 3), 1);
    }

    private static void called() {
        where = "promise 8";
        SumNames x = family();
        due("called(0)", x.called(0), 786);
        due("called(1)", x.called(1), 0);
        tell(x, "call 1 zzzzzzzzz;call 0 -");
        due("called(1)", x.called(1), 7625597484986L);
        due("called(0)", x.called(0), 0);
        due("called(8)", x.called(8), UNKNOWN);
        due("called(-1)", x.called(-1), UNKNOWN);
        due("called(LOW)", x.called(LOW), UNKNOWN);
    }

    private static void degrees() {
        where = "promise 9";
        SumNames x = family();
        due("degrees(0, 0)", x.degrees(0, 0), 0);
        due("degrees(0, 1), by a child", x.degrees(0, 1), 2);
        due("degrees(0, 3)", x.degrees(0, 3), 1);
        due("degrees(2, 3)", x.degrees(2, 3), 2);
        due("degrees(2, 7)", x.degrees(2, 7), 4);
        due("degrees(7, 2)", x.degrees(7, 2), 4);
        due("degrees(5, 2)", x.degrees(5, 2), 4);
        due("degrees(5, 7)", x.degrees(5, 7), 1);
        tell(x, "first 1 -");
        due("degrees(0, 8)", x.degrees(0, 8), NONE);
        due("degrees(8, 0)", x.degrees(8, 0), NONE);
        due("degrees(8, 8)", x.degrees(8, 8), 0);
        due("degrees(0, 9)", x.degrees(0, 9), UNKNOWN);
        due("degrees(9, 0)", x.degrees(9, 0), UNKNOWN);
        due("degrees(-1, 0)", x.degrees(-1, 0), UNKNOWN);
        SumNames chain = with("first 1 -;first 1 -;child 0 1 1 -;first 1 -;child 2 3 1 -;first 1 -;child 4 5 1 -;first 1 -",
            "child 6 7 1 -;first 1 -;child 8 9 1 -;first 1 -;child 10 11 1 -;first 1 -;child 12 13 1 -;first 1 -");
        due("degrees(0, 14)", chain.degrees(0, 14), 7);
        due("degrees(14, 1)", chain.degrees(14, 1), 7);
        due("degrees(15, 14)", chain.degrees(15, 14), NONE);
    }

    private static void as() {
        where = "promise 10";
        SumNames x = family();
        due("as(0, 0)", x.as(0, 0), 7);
        due("as(0, 1)", x.as(0, 1), 7);
        due("as(0, 2)", x.as(0, 2), NOT);
        due("as(0, 3)", x.as(0, 3), NOT);
        due("as(2, 0)", x.as(2, 0), 5);
        due("as(2, 1)", x.as(2, 1), NOT);
        due("as(2, 2)", x.as(2, 2), 5);
        due("as(2, 3)", x.as(2, 3), NOT);
        due("as(3, 1)", x.as(3, 1), NOT);
        due("as(3, 2)", x.as(3, 2), 5);
        due("as(3, 3)", x.as(3, 3), 5);
        due("as(3, 4)", x.as(3, 4), OUTSIDE);
        due("as(3, -1)", x.as(3, -1), OUTSIDE);
        due("as(8, -1)", x.as(8, -1), UNKNOWN);
        due("as(-1, 0)", x.as(-1, 0), UNKNOWN);
    }

    private static void sum() {
        where = "promise 11";
        SumNames x = with("letter b 0;letter c 99");
        due("sum(a)", x.sum(1), 1);
        due("sum(z)", x.sum(26), 26);
        due("sum(b)", x.sum(2), 0);
        due("sum(abc)", x.sum(786), 100);
        due("sum(ccccccccc)", x.sum(code("ccccccccc")), 891);
        due("sum(zzzzzzzzz)", x.sum(7625597484986L), 234);
        due("sum(aaaaaaaaaa)", x.sum(code("aaaaaaaaaa")), OUTSIDE);
        due("sum(27 to the power of 9)", x.sum(7625597484987L), OUTSIDE);
        long[] none = {0, -1, 27, 54, 27 * 27, 27 * 27 + 1, 28 * 27, Long.MAX_VALUE, Long.MIN_VALUE};
        for (long code : none) {
            due("sum(" + code + ")", x.sum(code), OUTSIDE);
        }
        due("sum(aa)", x.sum(28), 2);
    }

    private static void name() {
        where = "promise 12";
        SumNames x = with("syl ab;syl a;syl bca");
        String[] names = {"a", "ab", "bca", "aa", "aaa", "aba", "abab", "aab", "abca", "bcaa", "bcabcabca", "abbcaa", "ababab"};
        String[] others = {"b", "bc", "aaaa", "abb", "ba", "aabaa", "bcabcabc", "bcabcabcb", "abababa", "zzzzzzzzz"};
        for (String word : names) {
            due("name(" + word + ")", x.name(code(word)), 1);
        }
        for (String word : others) {
            due("name(" + word + ")", x.name(code(word)), 0);
        }
        tell(x, "letter b 0");
        due("name(bcabcabca), b being 0", x.name(code("bcabcabca")), 0);
        due("name(baaaaaaaa), b being 0", with("syl baa;syl aaa;letter b 0").name(code("baaaaaaaa")), 0);
        due("name(baaaaaaaa)", with("syl baa;syl aaa").name(code("baaaaaaaa")), 1);
        due("name(ab), b being 0", x.name(code("ab")), 0);
        due("name(aa), b being 0", x.name(code("aa")), 1);
        due("name(0)", x.name(0), OUTSIDE);
        due("name(27)", x.name(27), OUTSIDE);
        due("name(-5)", x.name(-5), OUTSIDE);
        due("name(7625597484987)", x.name(7625597484987L), OUTSIDE);
        tell(x, "forget");
        due("name(a), all forgotten", x.name(1), 0);
    }

    /** Days: a 1, ab 3, aab 4; 2 and 3 are children of 0 and 1. */
    private static SumNames judged() {
        return with("syl a;syl ab", "first 3 ab;first 3 aab;child 0 1 3 ab;child 0 1 4 -;first 3 ab;first 3 c;first 3 aaa");
    }

    private static void judge() {
        where = "promise 13";
        SumNames x = judged();
        int[] due = {4, 3, 4, 1, 0, 2, 0};
        for (int p = 0; p < 7; p++) {
            due("judge(" + p + ")", x.judge(p), due[p]);
        }
        tell(x, "call 0 aab");
        due("judge(2), no longer taken", x.judge(2), 0);
        due("judge(0), a sum too great ahead of taken", x.judge(0), 3);
        tell(x, "call 0 ab;letter b 0");
        due("judge(2), no name ahead of a sum", x.judge(2), 2);
        tell(x, "letter b 3");
        due("judge(2), a sum ahead of taken", x.judge(2), 3);
        due("judge(7)", x.judge(7), UNKNOWN);
        due("judge(-1)", x.judge(-1), UNKNOWN);
    }

    private static void taker() {
        where = "promise 14";
        SumNames x = judged();
        int[] due = {2, NONE, 0, NONE, NONE, NONE, NONE};
        for (int p = 0; p < 7; p++) {
            due("taker(" + p + ")", x.taker(p), due[p]);
        }
        tell(x, "call 1 ab");
        due("taker(0), the least of two", x.taker(0), 1);
        due("taker(2), the least of two", x.taker(2), 0);
        tell(x, "degrees 1");
        due("taker(0), 1 degree", x.taker(0), 2);
        due("taker(1), 1 degree", x.taker(1), 2);
        due("taker(7)", x.taker(7), UNKNOWN);
        due("taker(-1)", x.taker(-1), UNKNOWN);
    }

    private static void names() {
        where = "promise 15";
        // a 1, b 2, ab 3: of 3 letters aab is a.ab and a.a.b, but one name
        SumNames x = with("syl a;syl b;syl ab");
        int[][] due = {{1, 1, 0, 0}, {2, 1, 1, 0}, {3, 0, 2, 1}, {4, 0, 1, 3}, {5, 0, 0, 3}, {6, 0, 0, 1}};
        for (int[] row : due) {
            for (int letters = 1; letters <= 3; letters++) {
                due("names(" + row[0] + ", " + letters + ")", x.names(row[0], letters), row[letters]);
            }
        }
        // of 4 letters: a.ab.. only by three parts: sum 4 none, 5: aaab no; abab 6, and aab with another a: a.a.ab 5, a.ab.a, ab.a.a
        due("names(5, 4): aaab, aaba, abaa", x.names(5, 4), 3);
        due("names(5, 0)", x.names(5, 0), 6);
        due("names(9, 6): ababab", x.names(9, 6), 1);
        due("names(9, 9)", x.names(9, 9), 0);
        due("names(10, 0)", x.names(10, 0), 0);
        due("names(400, 0)", x.names(400, 0), 0);
        due("names(0, 0)", x.names(0, 0), OUTSIDE);
        due("names(401, 0)", x.names(401, 0), OUTSIDE);
        due("names(1, 10)", x.names(1, 10), OUTSIDE);
        due("names(1, -1)", x.names(1, -1), OUTSIDE);
        tell(x, "letter b 0");
        due("names(3, 0), b being 0: aaa", x.names(3, 0), 1);
        due("names(1, 0), b being 0: a", x.names(1, 0), 1);
        due("names(2, 0), b being 0: aa", x.names(2, 0), 1);
        SumNames full = with("letter a 1;letter b 1;letter c 1;letter d 1;letter e 1;letter f 1;letter g 1;letter h 1",
            "letter i 1;letter j 1;syl a;syl b;syl c;syl d;syl e;syl f", "syl g;syl h;syl i;syl j");
        due("names(3, 0), all of three", full.names(3, 0), 1000);
        due("names(3, 3)", full.names(3, 3), 1000);
        due("names(2, 0)", full.names(2, 0), 100);
        due("names(1, 0)", full.names(1, 0), 10);
        due("which(3, 999)", full.which(3, 999), code("jjj"));
        due("which(3, 0)", full.which(3, 0), code("aaa"));
        due("which(3, 345)", full.which(3, 345), code("def"));
        due("which(3, 1000)", full.which(3, 1000), NONE);
    }

    private static void which() {
        where = "promise 16";
        SumNames x = with("syl b;syl ab;syl a");
        String[] five = {"abb", "bab", "bba", "aaab", "aaba", "abaa"};
        for (int i = 0; i < five.length; i++) {
            due("which(5, " + i + ")", x.which(5, i), code(five[i]));
        }
        due("which(5, 6)", x.which(5, 6), NONE);
        due("which(5, HUGE)", x.which(5, HUGE), NONE);
        due("which(5, -1)", x.which(5, -1), OUTSIDE);
        due("which(0, 0)", x.which(0, 0), OUTSIDE);
        due("which(401, 0)", x.which(401, 0), OUTSIDE);
        due("which(400, 0)", x.which(400, 0), NONE);
        // fewer letters come first, whatever these are
        SumNames y = with("syl z;syl m;letter z 4;letter m 2");
        due("which(4, 0)", y.which(4, 0), code("z"));
        due("which(4, 1)", y.which(4, 1), code("mm"));
    }

    private static void free() {
        where = "promise 17";
        SumNames x = with("syl a;syl b;first 3 aaa;first 3 ab;child 0 1 3 ba;child 0 1 3 ba;first 3 aaa");
        // of 3: ab, ba, aaa
        due("free(4, NONE), nobody near", x.free(4, NONE), 3);
        due("free(2, NONE), all are taken", x.free(2, NONE), 0);
        due("free(2, 0)", x.free(2, 0), NONE);
        due("free(0, NONE), its own is not taken", x.free(0, NONE), 1);
        due("free(0, 0)", x.free(0, 0), code("aaa"));
        due("free(0, 1)", x.free(0, 1), NONE);
        due("free(0, HUGE)", x.free(0, HUGE), NONE);
        tell(x, "call 3 -");
        due("free(2, NONE)", x.free(2, NONE), 1);
        due("free(2, 0)", x.free(2, 0), code("ba"));
        due("free(3, NONE)", x.free(3, NONE), 0);
        tell(x, "degrees 1");
        due("free(0, NONE), 1 degree", x.free(0, NONE), 2);
        due("free(0, 0), 1 degree", x.free(0, 0), code("ab"));
        due("free(0, 1), 1 degree", x.free(0, 1), code("aaa"));
        due("free(0, -2)", x.free(0, -2), OUTSIDE);
        due("free(0, LOW)", x.free(0, LOW), OUTSIDE);
        due("free(5, -2)", x.free(5, -2), UNKNOWN);
        due("free(-1, 0)", x.free(-1, 0), UNKNOWN);
    }

    private static void hopes() {
        where = "promise 18";
        SumNames x = with("syl a;syl b;first 3 aaa;first 3 c;child 0 1 9 ab;first 9 ba;child 2 3 9 -");
        chance(x, 0, 1, 1, 1);
        tell(x, "hope 3 5;hope 3 5");
        // of 3 there are ab, ba, aaa; a child of 0 and 1 has 0 and 2 near, but not 3, 3 steps from 0: ba alone is free
        chance(x, 0, 1, 3, 4);
        tell(x, "degrees 4");
        // now 3 is near, by 3 steps, so none is free
        chance(x, 0, 1, 1, 4);
        chance(x, 1, 0, 1, 4);
        tell(x, "degrees 1");
        // none but the parents: aaa alone is taken
        chance(x, 0, 1, 1, 1);
        chance(x, 1, 4, 1, 1);
        tell(x, "hope 3 2");
        chance(x, 0, 1, 19, 20);
        chance(x, 1, 4, 1, 1);
        // a day without a name, and a child that is sure
        tell(x, "hope 100 0");
        chance(x, 0, 1, 19, 20);
        tell(x, "hope 100 3");
        chance(x, 0, 1, 133, 200);
        tell(x, "hope 100 10");
        chance(x, 0, 1, 0, 1);
        due("hopes(0, 0, 0)", x.hopes(0, 0, 0), OUTSIDE);
        due("hopes(0, 1, 2)", x.hopes(0, 1, 2), OUTSIDE);
        due("hopes(0, 1, -1)", x.hopes(0, 1, -1), OUTSIDE);
        due("hopes(5, 5, 0)", x.hopes(5, 5, 0), UNKNOWN);
        due("hopes(0, 5, 2)", x.hopes(0, 5, 2), UNKNOWN);
        due("hopes(-1, 0, 0)", x.hopes(-1, 0, 0), UNKNOWN);
        // two near persons with one name leave the other ones
        SumNames like = with("syl a;syl b;first 3 ab;first 3 ab;hope 3 10;hope 3 10;hope 3 1");
        chance(like, 0, 1, 9, 10);
        SumNames six = with("first 1 -;first 1 -;hope 9 9;hope 9 9;hope 9 9;hope 9 9;hope 9 9;hope 9 9");
        chance(six, 0, 1, 1, 1000000);
    }

    private static void without() {
        where = "promise 19";
        // 2, 5; 4, 7, 10; 6, 9, 12, 15
        SumNames x = with("syl b;syl e");
        due("without(1, 15, 0)", x.without(1, 15, 0), 6);
        due("without(1, 400, 0)", x.without(1, 400, 0), 391);
        due("without(1, 15, 1)", x.without(1, 15, 1), 1);
        due("without(4, 15, 1)", x.without(4, 15, 1), 8);
        due("without(4, 7, 0)", x.without(4, 7, 0), 0);
        due("without(4, 7, 1)", x.without(4, 7, 1), NONE);
        due("without(3, 3, 0)", x.without(3, 3, 0), 1);
        due("without(400, 400, 1)", x.without(400, 400, 1), 400);
        due("without(0, 5, 0)", x.without(0, 5, 0), OUTSIDE);
        due("without(5, 401, 0)", x.without(5, 401, 0), OUTSIDE);
        due("without(5, 4, 0)", x.without(5, 4, 0), OUTSIDE);
        due("without(LOW, HUGE, 0)", x.without(LOW, HUGE, 0), OUTSIDE);
        due("without(4, 7, 2)", x.without(4, 7, 2), OUTSIDE);
        due("without(4, 7, -1)", x.without(4, 7, -1), OUTSIDE);
        tell(x, "letter e 0");
        due("without(1, 15, 0), e being 0", x.without(1, 15, 0), 12);
        SumNames top = with("letter a 99;letter b 67;syl a;syl aa;syl bb");
        due("without(400, 400, 0): bb.bb.bb is 402", top.without(400, 400, 0), 1);
        tell(top, "letter b 1;syl aab");
        due("without(398, 400, 0): aa.aa.bb, aa.aab.bb, aab.aab.bb", top.without(398, 400, 0), 0);
        due("without(391, 400, 1)", top.without(391, 400, 1), 391);
        due("without(398, 400, 1)", top.without(398, 400, 1), NONE);
    }

    private static void mend() {
        where = "promise 20";
        SumNames x = with("syl b;syl e");
        due("mend(4, 7)", x.mend(4, 7), 0);
        due("mend(1, 1)", x.mend(1, 1), code("a"));
        due("mend(3, 3), by a and b", x.mend(3, 3), code("a"));
        due("mend(13, 13)", x.mend(13, 13), code("c"));
        due("mend(13, 14), by d", x.mend(13, 14), code("d"));
        due("mend(27, 27), by i.i.i", x.mend(27, 27), code("i"));
        due("mend(40, 40), by s.s.b: r.r.b.b has a part too many", x.mend(40, 40), code("s"));
        due("mend(150, 150), by two letters", x.mend(150, 150), code("xz"));
        due("mend(166, 166)", x.mend(166, 166), NONE);
        due("mend(156, 156), by zz.zz.zz", x.mend(156, 156), code("zz"));
        due("mend(1, 400)", x.mend(1, 400), NONE);
        due("mend(0, 5)", x.mend(0, 5), OUTSIDE);
        due("mend(5, 4)", x.mend(5, 4), OUTSIDE);
        due("mend(5, 401)", x.mend(5, 401), OUTSIDE);
        tell(x, "letter a 0");
        due("mend(1, 1), a being 0", x.mend(1, 1), NONE);
        tell(x, "letter z 1");
        due("mend(1, 1), z being 1", x.mend(1, 1), code("z"));
        due("mend(3, 3)", x.mend(3, 3), code("c"));
        due("mend(396, 396), by the greatest sum that there is", with("letter z 99").mend(396, 396), code("zz"));
        SumNames ten = with("syl a;syl b;syl c;syl d;syl e;syl f;syl g", "syl h;syl i");
        due("mend(28, 28), 9 syllables", ten.mend(28, 28), code("j"));
        tell(ten, "syl aa");
        due("mend(28, 28), 10 syllables", ten.mend(28, 28), NOT);
        due("mend(1, 27), none is without", ten.mend(1, 27), 0);
        due("mend(28, 27)", ten.mend(28, 27), OUTSIDE);
    }

    private static void old() {
        where = "promise 21";
        SumNames x = new SumNames();
        due("old(1, NONE), no words", x.old(1, NONE), 1);
        due("old(1, 0), no words", x.old(1, 0), 0);
        tell(x, "first 10 ab;first 5 -");
        // 1 + 9 .. 9 + 1
        due("old(9, NONE)", x.old(9, NONE), 9);
        due("old(9, 0)", x.old(9, 0), 1);
        due("old(9, 1)", x.old(9, 1), 9);
        due("old(9, 2), in none", x.old(9, 2), 0);
        due("old(5, NONE)", x.old(5, NONE), 1);
        due("old(5, 0)", x.old(5, 0), 5);
        due("old(4, NONE)", x.old(4, NONE), 0);
        due("old(4, 0)", x.old(4, 0), NONE);
        due("old(4, 25), in none, but no way", x.old(4, 25), NONE);
        tell(x, "first 12 baa");
        due("old(9, NONE), a is 2", x.old(9, NONE), 1);
        due("old(9, 0)", x.old(9, 0), 2);
        due("old(9, 1)", x.old(9, 1), 8);
        due("old(7, NONE)", x.old(7, NONE), 0);
        due("old(0, 0)", x.old(0, 0), OUTSIDE);
        due("old(10, 0)", x.old(10, 0), OUTSIDE);
        due("old(0, -2)", x.old(0, -2), UNKNOWN);
        due("old(9, 26)", x.old(9, 26), UNKNOWN);
        due("old(9, LOW)", x.old(9, LOW), UNKNOWN);
        SumNames five = with("first 25 edcba");
        due("old(9, NONE) of 5 letters", five.old(9, NONE), 3951);
        due("old(5, NONE) of 5 letters", five.old(5, NONE), 1);
        // the first by the letters of the alphabet, not as they stand: 1 1 5 9 9
        int[] first = {1, 1, 5, 9, 9};
        for (int i = 0; i < 5; i++) {
            due("old(9, " + i + ") of 5 letters", five.old(9, i), first[i]);
        }
        tell(five, "first 1 f");
        due("old(9, NONE) of 6 letters", five.old(9, NONE), NOT);
        due("old(9, 0) of 6 letters", five.old(9, 0), NOT);
        due("old(0, 0) of 6 letters", five.old(0, 0), OUTSIDE);
        tell(five, "call 0 edcb");
        due("old(9, NONE), f is 1, four letters sum to 25", five.old(9, NONE), 324);
        due("old(9, 5)", five.old(9, 5), 1);
        tell(five, "call 0 ff;call 1 -");
        due("old(9, NONE), ff 25", five.old(9, NONE), 0);
        tell(five, "forget;first 4 ff");
        due("old(9, 5), ff 4", five.old(9, 5), 2);
        tell(five, "forget");
        due("old(9, NONE), nobody", five.old(9, NONE), 1);
        SumNames all = with("first 2 a;first 4 aa;first 6 aaa;first 8 aaaa;first 3 b;first 6 bb;first 5 ab;first 18 aaaaaaaaa",
            "first 7 aab;first 8 bba;first 9 c;first 11 ca;first 12 cb;first 14 cab;first 9 d;first 10 de");
        due("old(9, NONE) of 16 words", all.old(9, NONE), 1);
        int[] of16 = {2, 3, 9, 9, 1};
        for (int i = 0; i < 5; i++) {
            due("old(9, " + i + ") of 16 words", all.old(9, i), of16[i]);
        }
        tell(all, "call 15 d");
        due("old(9, NONE) of 16 words that are at odds", all.old(9, NONE), 0);
        SumNames numbers = with("letter a 0;first 3 aaa");
        due("old(9, 0) has nothing to do with the numbers now", numbers.old(9, 0), 1);
    }

    private static void reformed(SumNames x, int person, int letter, int number, int anew) {
        due("reform(" + person + ", 0)", x.reform(person, 0), letter);
        due("reform(" + person + ", 1)", x.reform(person, 1), number);
        due("reform(" + person + ", 2)", x.reform(person, 2), anew);
    }

    private static void reform() {
        where = "promise 22";
        // 0: ab is 3, wants 10; 1: a adds up; 2: c does not
        SumNames x = with("first 10 ab;first 1 a;first 7 c;first 5 -");
        reformed(x, 0, 1, 9, 0);
        reformed(x, 2, 2, 7, 0);
        // it adds up already: the first letter that is in no other one that does, and another number
        reformed(x, 1, 1, 1, 0);
        due("reform(3, 0), called nothing", x.reform(3, 0), NOT);
        due("reform(3, 3)", x.reform(3, 3), OUTSIDE);
        due("reform(0, -1)", x.reform(0, -1), OUTSIDE);
        due("reform(4, -1)", x.reform(4, -1), UNKNOWN);
        due("reform(-1, 0)", x.reform(-1, 0), UNKNOWN);
        // bb wants 7: no number; wants 200: 100 is too great; wants 198: 99
        SumNames y = with("first 7 bb;first 200 bb;first 198 bb;first 1 ab;first 2 b");
        reformed(y, 0, NONE, NONE, NONE);
        reformed(y, 1, NONE, NONE, NONE);
        reformed(y, 2, 1, 99, 1);
        // a would have to be below 1, b too
        reformed(y, 3, NONE, NONE, NONE);
        // b adds up: a letter that is not in it; a has 1, so 2
        reformed(y, 4, 0, 2, 0);
        // of like ones the first letter, though another comes by fewer letters
        SumNames like = with("first 20 cba");
        reformed(like, 0, 0, 15, 0);
        // two others break by a, one by b, two by c that do not add up now
        SumNames fewest = with("first 20 abc;first 1 a;first 2 aa;first 4 bb;first 9 c;first 9 cc;first 3 c");
        reformed(fewest, 0, 1, 16, 1);
        tell(fewest, "call 6 -");
        reformed(fewest, 0, 2, 17, 0);
        // the least number that may be; a letter that stands first of nine; the least person counts
        SumNames edge = with("first 3 ab;letter a 5;first 25 cdddddddd;letter d 1;first 5 a");
        reformed(edge, 0, 0, 1, 1);
        reformed(edge, 1, 2, 17, 0);
        SumNames least = with("first 1 a;first 20 ab");
        reformed(least, 1, 1, 19, 0);
        tell(least, "call 0 b;letter b 1");
        reformed(least, 1, 0, 19, 0);
        tell(least, "call 1 b");
        reformed(least, 1, 1, 20, 1);
        // a word that is no name counts as well, and number 0 may be left
        SumNames zero = with("letter a 0;first 5 a;first 6 f");
        reformed(zero, 0, 0, 5, 0);
        reformed(zero, 1, 0, 1, 0);
        due("letter(0) is as it was", zero.letter(0), 0);
    }

    private static void nicknames() {
        where = "promise 23";
        SumNames x = with("syl a;syl b;syl ba;first 6 abab;first 6 ab;first 7 a;first 6 -", "first 5 bab;first 12 aabbaa");
        // of abab without all: a b aa ab ba bb aba abb aab bab; sums dividing 6: a1 b2 aa2 ab3 ba3; bb, aba 4, aab 4, abb, bab 5
        due("nicknames(0, 0)", x.nicknames(0, 0), 5);
        due("nicknames(0, 1)", x.nicknames(0, 1), code("a"));
        // ab itself is not one: a, b
        due("nicknames(1, 0)", x.nicknames(1, 0), 2);
        due("nicknames(2, 0), nothing can be left out", x.nicknames(2, 0), 0);
        due("nicknames(2, 1)", x.nicknames(2, 1), NONE);
        due("nicknames(3, 0)", x.nicknames(3, 0), NOT);
        due("nicknames(3, 2)", x.nicknames(3, 2), OUTSIDE);
        due("nicknames(4, 0), bab itself has sum 5: a alone", x.nicknames(4, 0), 1);
        // aabbaa 8 of day 12: 1 a, 2 aa b, 3 aaa ab ba, 4 aaaa=no name bb aab aba baa, 6 ..
        // of 6: bbaa b.ba.a yes, aabb no (4 parts), abba a.b.ba yes, aabaa no, aaaabb not in it, baab not in it
        due("nicknames(5, 0)", x.nicknames(5, 0), 12);
        due("nicknames(-1, 0)", x.nicknames(-1, 0), UNKNOWN);
        due("nicknames(6, 5)", x.nicknames(6, 5), UNKNOWN);
        due("nicknames(0, -1)", x.nicknames(0, -1), OUTSIDE);
        SumNames nine = with("syl c;syl d;letter c 5;letter d 4;first 20 cdddddddd");
        // d 4, c 5; of 8, 9, 12, 13 none divides 20
        due("nicknames(0, 0) of nine letters", nine.nicknames(0, 0), 2);
        due("nicknames(0, 1) of nine letters, the first of them", nine.nicknames(0, 1), code("c"));
        SumNames full = with("letter a 1;letter b 1;letter c 1;letter d 1;letter e 1;letter f 1;letter g 1;letter h 1",
            "letter i 1;letter j 1;syl a;syl b;syl c;syl d;syl e;syl f", "syl g;syl h;syl i;syl j;first 6 jjjj");
        due("nicknames(0, 0), as all 1110 names divide", full.nicknames(0, 0), 3);
        tell(x, "letter a 0");
        due("nicknames(1, 0), a being 0", x.nicknames(1, 0), 1);
        due("nicknames(1, 1), a being 0", x.nicknames(1, 1), 2);
    }

    private static void page() {
        where = "promise 24";
        SumNames x = with("first 6 abc;first 9 -;first 7 z;first 1 a;letter y 2;letter x 0");
        due("page(0, 0, 0)", x.page(0, 0, 0), 0);
        due("page(0, 0, 1)", x.page(0, 0, 1), NONE);
        // abc 6 to 7: a to b or y, b to c, c to d
        due("page(1, 7, 0)", x.page(1, 7, 0), 4);
        due("page(1, 7, 1)", x.page(1, 7, 1), 0);
        // to 6: b to y alone, another letter of the same number
        due("page(1, 6, 0)", x.page(1, 6, 0), 1);
        // to 5: b to a, c to b or y; a to x is of number 0
        due("page(1, 5, 0)", x.page(1, 5, 0), 3);
        // z and abc 32 to 33: not z, as no number is 27
        due("page(5, 33, 0)", x.page(5, 33, 0), 4);
        due("page(5, 33, 1)", x.page(5, 33, 1), 0);
        // to 8: z to b or y; none of abc
        due("page(5, 8, 0)", x.page(5, 8, 0), 2);
        due("page(5, 8, 1)", x.page(5, 8, 1), 2);
        due("page(1, 17, 0), each of nine to b or i", with("letter b 9;first 1 acccccccc;letter c 1").page(1, 17, 0), 18);
        due("page(1, 2, 0), the first of nine to b", with("first 1 zaaaaaaaa;letter z 90;letter a 0").page(1, 2, 0), 1);
        due("page(5, 9999, 0)", x.page(5, 9999, 0), 0);
        due("page(5, 9999, 1)", x.page(5, 9999, 1), NONE);
        due("page(3, 9, 0), one is called nothing", x.page(3, 9, 0), NOT);
        due("page(3, 10000, 0)", x.page(3, 10000, 0), OUTSIDE);
        due("page(1, -1, 0)", x.page(1, -1, 0), OUTSIDE);
        due("page(1, 6, 2)", x.page(1, 6, 2), OUTSIDE);
        due("page(1, 6, -1)", x.page(1, 6, -1), OUTSIDE);
        due("page(16, 6, 0), no such person", x.page(16, 6, 0), OUTSIDE);
        due("page(18, 6, 0), no such person ahead of called nothing", x.page(18, 6, 0), OUTSIDE);
        due("page(-1, 6, 0)", x.page(-1, 6, 0), OUTSIDE);
        due("page(LOW, 6, 0)", x.page(LOW, 6, 0), OUTSIDE);
        SumNames full = with("first 1 a;first 1 a;first 1 a;first 1 a;first 1 a;first 1 a;first 1 a;first 1 a",
            "first 1 a;first 1 a;first 1 a;first 1 a;first 1 a;first 1 a;first 1 a;first 1 a");
        due("page(65535, 17, 0)", full.page(65535, 17, 0), 16);
        due("page(32768, 2, 1)", full.page(32768, 2, 1), 15);
        due("page(65536, 2, 1)", full.page(65536, 2, 1), OUTSIDE);
    }

    private static void sheet() {
        where = "promise 25";
        SumNames x = new SumNames();
        due("sheet(0, 0, 0)", x.sheet(0, 0, 0), 1);
        due("count(5)", x.count(5), 0);
        due("sheet(2, 2, 20)", x.sheet(2, 2, 20), 1);
        due("count(7)", x.count(7), 20);
        due("sheet(2, 2, 21)", x.sheet(2, 2, 21), OUTSIDE);
        due("sheet(2, 2, HUGE)", x.sheet(2, 2, HUGE), OUTSIDE);
        due("sheet(2, 3, 5)", x.sheet(2, 3, 5), OUTSIDE);
        due("sheet(2, -1, 5)", x.sheet(2, -1, 5), OUTSIDE);
        due("sheet(2, -1, -1)", x.sheet(2, -1, -1), OUTSIDE);
        due("sheet(2, 2, -1)", x.sheet(2, 2, -1), SIZE);
        due("sheet(2, 2, LOW)", x.sheet(2, 2, LOW), SIZE);
        due("sheet(3, 3, -1)", x.sheet(3, 3, -1), UNKNOWN);
        due("sheet(-1, 0, 1)", x.sheet(-1, 0, 1), UNKNOWN);
        due("count(7), refused and the same", x.count(7), 20);
        x.lay(2, 0, 7);
        due("hope(2, 2, 0, 1, 1)", x.hope(2, 2, 0, 1, 1), 1);
        due("sheet(2, 2, 3)", x.sheet(2, 2, 3), 1);
        due("hope(2, 2, 0, 1, 1), items are 0 again", x.hope(2, 2, 0, 1, 1), NOT);
    }

    private static void tear() {
        where = "promise 26";
        SumNames x = new SumNames();
        due("tear(1), missing already", x.tear(1), 1);
        x.sheet(1, 1, 4);
        due("tear(1)", x.tear(1), 1);
        due("count(6)", x.count(6), NONE);
        due("lay(1, 0, 0)", x.lay(1, 0, 0), NULL);
        due("tear(3)", x.tear(3), UNKNOWN);
        due("tear(-1)", x.tear(-1), UNKNOWN);
    }

    private static void lay() {
        where = "promise 27";
        SumNames x = new SumNames();
        due("lay(0, 99, 1)", x.lay(0, 99, 1), NULL);
        due("lay(3, 0, 1)", x.lay(3, 0, 1), UNKNOWN);
        due("lay(-1, 0, 1)", x.lay(-1, 0, 1), UNKNOWN);
        x.sheet(0, 0, 3);
        x.sheet(1, 1, 3);
        x.sheet(2, 2, 3);
        due("lay(0, 3, 1)", x.lay(0, 3, 1), INDEX);
        due("lay(0, -1, 1)", x.lay(0, -1, 1), INDEX);
        due("lay(0, HUGE, 1)", x.lay(0, HUGE, 1), INDEX);
        due("lay(0, 2, 1)", x.lay(0, 2, 1), 1);
        // each day is seen as hope() takes it or not
        int[][] laid = {{0, 127, 1}, {0, 128, 0}, {0, 255, 0}, {0, 256, 0}, {0, 257, 1}, {0, -255, 1}, {1, 400, 1}, {1, 401, 0},
            {1, 32768, 0}, {1, 65535, 0}, {1, 65537, 1}, {1, 70000, 0}, {1, 65536 + 400, 1}, {2, 400, 1}, {2, 65537, 0}, {2, -1, 0}};
        int hopes = 0;
        for (int[] row : laid) {
            due("lay(" + row[0] + ", 1, " + row[1] + ")", x.lay(row[0], 1, row[1]), 1);
            long answer = x.hope(row[0], row[0], 1, 1, 5);
            hopes += row[2];
            due("hope() of " + row[1] + " in lane " + row[0], answer, row[2] == 0 ? NOT : hopes > 6 ? FULL : hopes);
        }
    }

    private static void copy() {
        where = "promise 28";
        SumNames x = new SumNames();
        due("copy(0, 0, 1, 0, 0)", x.copy(0, 0, 1, 0, 0), NULL);
        x.sheet(0, 2, 5);
        due("copy(0, 0, 1, 0, 0)", x.copy(0, 0, 1, 0, 0), NULL);
        due("copy(1, 0, 0, 0, 0)", x.copy(1, 0, 0, 0, 0), NULL);
        due("copy(1, 0, 3, 0, 0)", x.copy(1, 0, 3, 0, 0), UNKNOWN);
        due("copy(-1, 0, 1, 0, 0)", x.copy(-1, 0, 1, 0, 0), UNKNOWN);
        x.sheet(1, 1, 5);
        due("copy(0, 9, 1, 0, -1)", x.copy(0, 9, 1, 0, -1), CAST);
        x.sheet(1, 2, 3);
        int[][] outside = {{0, 0, 4}, {3, 0, 3}, {0, 1, 3}, {-1, 0, 1}, {0, -1, 1}, {0, 0, -1}, {6, 0, 0}, {0, 4, 0}, {HUGE, 0, 1},
            {0, HUGE, 1}, {1, 1, HUGE}, {-1, 0, 0}, {0, 0, LOW}, {LOW, LOW, LOW}};
        for (int[] row : outside) {
            due("copy(0, " + row[0] + ", 1, " + row[1] + ", " + row[2] + ")", x.copy(0, row[0], 1, row[1], row[2]), INDEX);
        }
        due("copy(0, 5, 1, 3, 0)", x.copy(0, 5, 1, 3, 0), 1);
        for (int i = 0; i < 5; i++) {
            x.lay(0, i, 201 + 3 * i);
        }
        due("copy(0, 2, 1, 0, 3)", x.copy(0, 2, 1, 0, 3), 1);
        items(x, 1, 2, 207, 210, 213);
        due("copy(0, 0, 0, 1, 4), over itself upwards", x.copy(0, 0, 0, 1, 4), 1);
        items(x, 0, 2, 201, 201, 204, 207, 210);
        due("copy(0, 1, 0, 0, 4), over itself downwards", x.copy(0, 1, 0, 0, 4), 1);
        items(x, 0, 2, 201, 204, 207, 210, 210);
        items(x, 1, 2, 207, 210, 213);
    }

    private static void hope() {
        where = "promise 29";
        SumNames x = new SumNames();
        due("hope(0, 0, 0, 1, 1)", x.hope(0, 0, 0, 1, 1), NULL);
        due("hope(3, 9, 0, 1, 1)", x.hope(3, 9, 0, 1, 1), UNKNOWN);
        due("hope(-1, 0, 0, 1, 1)", x.hope(-1, 0, 0, 1, 1), UNKNOWN);
        int[][] outside = {{3, 1, 1}, {-1, 1, 1}, {0, 0, 1}, {0, 7, 1}, {0, -1, 1}, {0, 1, -1}, {0, 1, 11}};
        for (int[] row : outside) {
            due("hope(0, " + row[0] + ", 0, " + row[1] + ", " + row[2] + ")", x.hope(0, row[0], 0, row[1], row[2]), OUTSIDE);
        }
        x.sheet(0, 1, 8);
        for (int i = 0; i < 7; i++) {
            x.lay(0, i, 3);
        }
        due("hope(0, 2, 99, 1, 1)", x.hope(0, 2, 99, 1, 1), CAST);
        due("hope(0, 1, 8, 1, 1)", x.hope(0, 1, 8, 1, 1), INDEX);
        due("hope(0, 1, 3, 6, 1)", x.hope(0, 1, 3, 6, 1), INDEX);
        due("hope(0, 1, -1, 1, 1)", x.hope(0, 1, -1, 1, 1), INDEX);
        due("hope(0, 1, HUGE, 6, 1)", x.hope(0, 1, HUGE, 6, 1), INDEX);
        due("hope(0, 1, 7, 1, 1), item 0", x.hope(0, 1, 7, 1, 1), NOT);
        due("hope(0, 1, 2, 6, 1), the last is 0", x.hope(0, 1, 2, 6, 1), NOT);
        due("count(2)", x.count(2), 0);
        due("hope(0, 1, 0, 2, 0)", x.hope(0, 1, 0, 2, 0), 2);
        due("hope(0, 1, 0, 5, 10)", x.hope(0, 1, 0, 5, 10), FULL);
        due("hope(0, 1, 3, 5, 10), not ahead of full", x.hope(0, 1, 3, 5, 10), NOT);
        due("count(2)", x.count(2), 2);
        due("hope(0, 1, 0, 4, 5)", x.hope(0, 1, 0, 4, 5), 6);
        due("hope(0, 1, 0, 1, 5)", x.hope(0, 1, 0, 1, 5), FULL);
        // two never come, four by halves, one name: by 1 of 16 none, by 4 of 16 one comes
        tell(x, "syl c;first 1 -;first 1 -");
        chance(x, 0, 1, 5, 16);
        SumNames six = new SumNames();
        six.sheet(2, 0, 6);
        for (int i = 0; i < 6; i++) {
            six.lay(2, i, 100);
        }
        due("hope(2, 0, 0, 6, 10)", six.hope(2, 0, 0, 6, 10), 6);
    }

    private static void keepAndBack() {
        where = "promise 30";
        SumNames x = with("syl a;first 1 a;first 2 aa;hope 1 5;degrees 2;letter b 7");
        put(x, "syl x");
        x.sheet(0, 0, 4);
        due("keep(0)", x.keep(0), 2);
        due("keep(2)", x.keep(2), UNKNOWN);
        due("keep(-1)", x.keep(-1), UNKNOWN);
        where = "promise 31";
        due("back(1)", x.back(1), NOT);
        due("back(2)", x.back(2), UNKNOWN);
        due("back(-1)", x.back(-1), UNKNOWN);
        x.erase();
        tell(x, "forget;letter b 9;degrees 4;syl q;syl r;first 9 z;hope 2 2;hope 3 3");
        due("keep(1)", x.keep(1), 1);
        put(x, "syl xyz");
        x.tear(0);
        x.sheet(1, 2, 6);
        due("back(0)", x.back(0), 2);
        int[] counts = {2, 1, 1, 2, 7, NONE, 6};
        for (int i = 0; i < counts.length; i++) {
            due("count(" + i + ")", x.count(i), counts[i]);
        }
        due("letter(1)", x.letter(1), 7);
        due("called(1)", x.called(1), code("aa"));
        due("person(1, 0)", x.person(1, 0), 2);
        due("name(aaa)", x.name(code("aaa")), 1);
        due("name(q)", x.name(code("q")), 0);
        x.erase();
        tell(x, "call 0 b;child 0 1 3 -");
        due("back(0), as it was kept still", x.back(0), 2);
        due("called(0)", x.called(0), 1);
        due("back(1)", x.back(1), 1);
        due("letter(1)", x.letter(1), 9);
        due("count(3)", x.count(3), 4);
        due("count(2)", x.count(2), 2);
        due("called(0)", x.called(0), 26);
        due("keep(0), over what was kept", x.keep(0), 1);
        tell(x, "forget");
        due("back(0)", x.back(0), 1);
        due("called(0)", x.called(0), 26);
    }

    private static void count() {
        where = "promise 32";
        SumNames x = with("syl a;syl b;first 1 a;hope 1 5;hope 1 5;hope 1 5;degrees 4");
        put(x, "forge");
        x.sheet(0, 0, 0);
        x.sheet(1, 1, 11);
        int[] due = {1, 2, 3, 4, 5, 0, 11, NONE};
        for (int i = 0; i < due.length; i++) {
            due("count(" + i + ")", x.count(i), due[i]);
        }
        due("count(8)", x.count(8), OUTSIDE);
        due("count(-1)", x.count(-1), OUTSIDE);
        due("count(LOW)", x.count(LOW), OUTSIDE);
    }

    /** Kin change while the rest stays: what is asked after a text is not what was asked before it. */
    private static void fullRun() {
        where = "promise 17";
        SumNames x = with("syl a;syl b;first 3 ab;first 3 ba;first 3 aaa");
        due("free(2, NONE)", x.free(2, NONE), 3);
        tell(x, "child 0 2 9 -");
        due("free(2, NONE), 0 being near by a child", x.free(2, NONE), 2);
        tell(x, "child 1 2 9 -");
        due("free(2, NONE), 1 being near, too", x.free(2, NONE), 1);
        due("free(0, NONE), 1 being 4 away", x.free(0, NONE), 2);
        tell(x, "degrees 4");
        due("free(0, NONE), 4 degrees", x.free(0, NONE), 1);
        due("free(0, 0)", x.free(0, 0), code("ab"));
    }
}
