import java.util.Arrays;
import java.util.Random;
import java.util.TreeMap;

/** Runs of calls drawn from a fixed seed, each answered by the class and by the plain model. */
public final class AgainstPlainModelTest {
    private static final int RUNS = 1300;
    // runs that begin with all that there can be: by chance a run hardly comes there
    private static final int FULL_RUNS = 250;
    // beyond these an object may answer as it likes
    private static final int MOST_CALLS = 512;
    private static final int CALLS_OF_A_STEP = 60;
    private static int wrong = 0;
    private static int calls = 0;
    private static final TreeMap<String, Integer> SEEN = new TreeMap<>();

    private final Random random;
    private final SumNames x = new SumNames();
    private final PlainModel m = new PlainModel();
    private final int run;
    private int made = 0;
    // few letters and low days, else hardly a name is taken and hardly a day has one
    private final int alphabet;
    private final int lastDay;
    // in calm runs hardly a text has a fault, so that much is told
    private final int calm;
    // in adding runs all are called by words of their days, so that old names have ways
    private final boolean adding;
    private final boolean full;

    private AgainstPlainModelTest(int run, boolean full) {
        this.run = run;
        this.full = full;
        random = new Random(7919L * run + 1);
        alphabet = new int[] {2, 3, 4, 5, 8, full ? 6 : 26}[random.nextInt(6)];
        lastDay = new int[] {6, 12, 30, 60, 400}[random.nextInt(full ? 3 : 5)];
        calm = new int[] {10, 40, 200}[random.nextInt(3)];
        adding = random.nextInt(4) == 0;
    }

    public static void main(String[] args) {
        for (int run = 0; run < RUNS + FULL_RUNS && wrong < 20; run++) {
            new AgainstPlainModelTest(run, run >= RUNS).go();
        }
        if (args.length > 0) {
            SEEN.forEach((k, v) -> System.out.println(k + " " + v));
        }
        mustHaveSeen();
        System.out.println(calls + " calls, " + wrong + " answers are not the model's");
        if (wrong != 0) {
            System.exit(1);
        }
    }

    /** A comparison in which a refusal or an answer never came up would show nothing of it. */
    private static void mustHaveSeen() {
        String[] all = {"write -3", "write -5", "write +", "erase +", "fault -1", "fault +", "told -4", "told +", "letter -2",
            "letter +", "person -2", "person -3", "person -1", "person +", "called -2", "called 0", "called +", "degrees -2",
            "degrees -1", "degrees +", "as -2", "as -3", "as -4", "as +", "sum -3", "sum +", "name -3", "name 0", "name +",
            "judge -2", "judge 0", "judge 1", "judge 2", "judge 3", "judge 4", "taker -2", "taker -1", "taker +", "names -3",
            "names 0", "names +", "which -3", "which -1", "which +", "free -2", "free -3", "free -1", "free 0", "free +",
            "hopes -2", "hopes -3", "hopes 0", "hopes +", "without -3", "without -1", "without 0", "without +", "mend -3",
            "mend -4", "mend -1", "mend 0", "mend +", "old -2", "old -3", "old -4", "old -1", "old 0", "old +", "reform -2",
            "reform -3", "reform -4", "reform -1", "reform 0", "reform +", "nicknames -2", "nicknames -3", "nicknames -4",
            "nicknames -1", "nicknames 0", "nicknames +", "page -3", "page -4", "page -1", "page 0", "page +", "sheet -2",
            "sheet -3", "sheet -14", "sheet +", "tear -2", "tear +", "lay -2", "lay -11", "lay -13", "lay +", "copy -2",
            "copy -11", "copy -12", "copy -13", "copy +", "hope -2", "hope -3", "hope -11", "hope -12", "hope -13", "hope -4",
            "hope -5", "hope +", "keep -2", "keep +", "back -2", "back -4", "back +", "count -3", "count -1", "count +",
            "state: 16 persons", "state: 10 syllables", "state: 6 hopes", "state: a twin", "state: 100 names of a day or more",
            "state: a letter of 0"};
        for (String kind : all) {
            if (!SEEN.containsKey(kind)) {
                wrong++;
                System.out.println("never answered: " + kind);
            }
        }
    }

    private void due(String call, long got, long want) {
        calls++;
        made++;
        String name = call.substring(0, call.indexOf('('));
        String kind = want < 0 || want == 0 || name.equals("judge") ? Long.toString(want) : "+";
        seen(name + " " + kind);
        if (got != want) {
            wrong++;
            System.out.println("run " + run + ": " + call + " answered " + got + ", the model " + want);
        }
    }

    private static void seen(String what) {
        SEEN.merge(what, 1, Integer::sum);
    }

    private void seeState(int day) {
        seen("state: " + m.s.persons.size() + " persons");
        seen("state: " + m.s.syllables.size() + " syllables");
        seen("state: " + m.s.hopes.size() + " hopes");
        if (m.s.persons.stream().anyMatch(p -> p.kind == 2)) {
            seen("state: a twin");
        }
        if (m.names(day, 0) >= 100) {
            seen("state: 100 names of a day or more");
        }
        if (Arrays.stream(m.s.numbers).anyMatch(n -> n == 0)) {
            seen("state: a letter of 0");
        }
    }

    private void go() {
        if (full) {
            fill();
        } else {
            begin();
        }
        while (made < MOST_CALLS - CALLS_OF_A_STEP && wrong < 20) {
            int kind = random.nextInt(10);
            if (kind < 3) {
                text();
            } else if (kind < 5) {
                askTold();
            } else if (kind < 7) {
                askNames();
            } else if (kind < 8) {
                askOld();
            } else {
                sheets();
            }
        }
    }

    private void begin() {
        for (int i = 0; i < 3; i++) {
            String w = word(4);
            tell("syl " + word(2) + ";syl " + word(1) + word(2) + ";first " + dayFor(w) + w);
            due("sheet(" + i + ", " + i + ", 8)", x.sheet(i, i, 8), m.sheet(i, i, 8));
        }
    }

    private void tell(String text) {
        writeAll(text);
        due("fault()", x.fault(), m.fault());
        due("told()", x.told(), m.told());
        due("erase()", x.erase(), m.erase());
    }

    // ---- all that there can be

    private void fill() {
        int[] numbers = new int[][] {{1, 1}, {1, 2}, {0, 3}, {30, 70}}[below(4)];
        StringBuilder letters = new StringBuilder("degrees " + (1 + below(4)));
        for (int i = 0; i < Math.min(7, alphabet); i++) {
            letters.append(";letter ").append((char) ('a' + i)).append(numbers[0] + below(numbers[1] - numbers[0] + 1));
        }
        tell(letters.toString());
        while (m.s.syllables.size() < 10 && made < MOST_CALLS / 3) {
            tell("syl " + plainWord(1 + below(3)));
        }
        while (m.s.persons.size() < 16 && made < MOST_CALLS / 2) {
            tell(birth());
        }
        int n = 8 + below(13);
        due("sheet(2, 2, " + n + ")", x.sheet(2, 2, n), m.sheet(2, 2, n));
        for (int i = 0; i < 6; i++) {
            int day = 1 + below(1 + below(lastDay));
            due("lay(2, " + i + ", " + day + ")", x.lay(2, i, day), m.lay(2, i, day));
        }
        int c = 1 + below(10);
        due("hope(2, 2, 1, 2, " + c + ")", x.hope(2, 2, 1, 2, c), m.hope(2, 2, 1, 2, c));
        due("hope(2, 2, 2, 4, 5)", x.hope(2, 2, 2, 4, 5), m.hope(2, 2, 2, 4, 5));
    }

    /** Often a child of an earlier one's parents, the other way about, and on its day: twins hardly come by chance. */
    private String birth() {
        String w = calling();
        int there = m.s.persons.size();
        if (there < 2 || below(6) == 0) {
            return "first " + dayFor(w) + " " + w;
        }
        PlainModel.Person like = m.s.persons.get(below(there));
        if (like.kind == 0 || below(2) == 0) {
            int p = below(there);
            return "child " + p + " " + (p + 1 + below(there - 1)) % there + " " + dayFor(w) + " " + w;
        }
        return "child " + like.otherParent + " " + like.parent + " " + (below(3) > 0 ? like.day : dayFor(w)) + " " + w;
    }

    private String plainWord(int letters) {
        StringBuilder b = new StringBuilder();
        for (int i = 0; i < letters; i++) {
            b.append((char) ('a' + below(alphabet)));
        }
        return b.toString();
    }

    private int below(int n) {
        return random.nextInt(n);
    }

    private boolean rarely() {
        return below(calm) == 0;
    }

    private int odd() {
        int[] odd = {-1, -2, 0, 1, 16, 26, 31, 99, 100, 400, 401, 9999, 10000, Integer.MAX_VALUE, Integer.MIN_VALUE};
        return odd[below(odd.length)];
    }

    private int anyPerson() {
        return rarely() ? odd() : below(Math.max(1, m.s.persons.size()));
    }

    private int anyDay() {
        return rarely() ? odd() : 1 + below(lastDay);
    }

    private int any(int n) {
        return rarely() ? odd() : below(n);
    }

    // ---- texts

    private void text() {
        if (below(4) > 0) {
            due("erase()", x.erase(), m.erase());
        }
        StringBuilder b = new StringBuilder();
        int lines = rarely() ? 1 + below(12) : 1 + below(4);
        for (int i = 0; i < lines; i++) {
            b.append(i > 0 ? ";" : "").append(blanks()).append(line()).append(blanks());
        }
        if (b.length() > 0 && below(calm) < 3) {
            spoil(b);
        }
        writeAll(b.toString());
        due("fault()", x.fault(), m.fault());
        due("told()", x.told(), m.told());
    }

    private void writeAll(String text) {
        for (int from = 0; from < text.length() && made < MOST_CALLS - 8;) {
            int n = Math.min(full ? 8 : 1 + below(8), text.length() - from);
            long bytes = below(3) == 0 && n < 8 ? random.nextLong() << 8 * n : 0;
            for (int i = 0; i < n; i++) {
                bytes |= (long) text.charAt(from + i) << 8 * i;
            }
            due("write(" + bytes + ", " + n + ")", x.write(bytes, n), m.write(bytes, n));
            from += n;
        }
        if (rarely()) {
            int n = odd();
            due("write(0, " + n + ")", x.write(0, n), m.write(0, n));
        }
    }

    private void spoil(StringBuilder b) {
        int at = below(b.length());
        String signs = "abcz0189-; \tA~" + (char) 0 + (char) 255;
        int kind = below(3);
        if (kind == 0) {
            b.deleteCharAt(at);
        } else if (kind == 1) {
            b.setCharAt(at, signs.charAt(below(signs.length())));
        } else {
            b.insert(at, signs.charAt(below(signs.length())));
        }
    }

    private String blanks() {
        return below(4) == 0 ? "  ".substring(below(3)) : "";
    }

    private String word(int most) {
        return plainWord(rarely() ? 1 + below(11) : 1 + below(most));
    }

    /** Mostly a word made of syllables, or one that another person is called by. */
    private String calling() {
        int kind = below(8);
        if (kind == 0) {
            return "-";
        }
        if (kind == 1) {
            return word(9);
        }
        if (kind < 4 && !m.s.persons.isEmpty()) {
            String likewise = m.s.persons.get(below(m.s.persons.size())).word;
            return likewise == null ? "-" : likewise;
        }
        StringBuilder b = new StringBuilder();
        for (int i = 1 + below(3); i > 0; i--) {
            b.append(m.s.syllables.isEmpty() ? word(2) : m.s.syllables.get(below(m.s.syllables.size())));
        }
        return b.toString();
    }

    private int dayFor(String word) {
        if (word.equals("-") || !adding && below(3) == 0) {
            return anyDay();
        }
        int sum = 0;
        for (char c : word.toCharArray()) {
            sum += m.s.numbers[c - 'a'];
        }
        return sum;
    }

    private String number(int n) {
        return n < 0 ? "-" + Long.toString(-(long) n) : (rarely() ? "0" : "") + n;
    }

    private String line() {
        String w = calling();
        int kind = below(rarely() ? 24 : 16);
        boolean breaks = kind == 0 || kind == 11 || kind == 12;
        switch (adding && breaks ? 1 : kind) {
            case 0:
                return "letter " + word(1) + " " + number(any(rarely() ? 100 : 9));
            case 1:
            case 2:
            case 3:
                return "syl " + word(rarely() ? 4 : 2);
            case 4:
            case 5:
                return "first " + number(dayFor(w)) + blanks() + w;
            case 6:
            case 7:
            case 8:
            case 9:
            case 10:
                return "child " + number(anyPerson()) + " " + number(anyPerson()) + " " + number(dayFor(w)) + blanks() + w;
            case 11:
            case 12:
                return "call" + blanks() + number(anyPerson()) + blanks() + w;
            case 13:
            case 14:
                return "hope " + number(anyDay()) + " " + number(any(11));
            case 15:
                return "degrees " + number(rarely() ? odd() : 1 + below(4));
            case 16:
                return "forget";
            case 17:
                return "";
            case 18:
                return word(6) + " 1";
            default:
                return "call " + number(anyPerson()) + " -";
        }
    }

    // ---- questions

    private void askTold() {
        int p = anyPerson();
        int q = anyPerson();
        int what = any(5);
        int l = any(26);
        due("letter(" + l + ")", x.letter(l), m.letter(l));
        due("person(" + p + ", " + what + ")", x.person(p, what), m.person(p, what));
        due("called(" + p + ")", x.called(p), m.called(p));
        due("degrees(" + p + ", " + q + ")", x.degrees(p, q), m.degrees(p, q));
        due("as(" + p + ", " + what + ")", x.as(p, what), m.as(p, what));
        due("judge(" + q + ")", x.judge(q), m.judge(q));
        due("taker(" + q + ")", x.taker(q), m.taker(q));
    }

    private long code() {
        long[] odd = {0, -1, 27, 28, 729, 7625597484986L, 7625597484987L, Long.MAX_VALUE, Long.MIN_VALUE};
        int kind = below(10);
        if (kind == 0) {
            return odd[below(odd.length)];
        }
        if (kind == 1) {
            return below(1000);
        }
        String w = calling();
        return w.equals("-") ? 1 : PlainModel.codeOf(w.substring(0, Math.min(9, w.length())));
    }

    private void askNames() {
        long c = code();
        int day = anyDay();
        int to = rarely() ? anyDay() : Math.min(400, Math.max(1, day) + below(4));
        int letters = any(10);
        int i = below(3) == 0 ? any(60) : any(3);
        int p = anyPerson();
        int q = anyPerson();
        seeState(day);
        due("sum(" + c + ")", x.sum(c), m.sum(c));
        due("name(" + c + ")", x.name(c), m.name(c));
        due("names(" + day + ", 0)", x.names(day, 0), m.names(day, 0));
        due("names(" + day + ", " + letters + ")", x.names(day, letters), m.names(day, letters));
        due("which(" + day + ", " + i + ")", x.which(day, i), m.which(day, i));
        due("free(" + p + ", " + i + ")", x.free(p, i), m.free(p, i));
        due("free(" + p + ", -1)", x.free(p, -1), m.free(p, -1));
        int part = any(2);
        due("hopes(" + p + ", " + q + ", " + part + ")", x.hopes(p, q, part), m.hopes(p, q, part));
        due("hopes(" + p + ", " + q + ", 0)", x.hopes(p, q, 0), m.hopes(p, q, 0));
        due("without(" + day + ", " + to + ", " + part + ")", x.without(day, to, part), m.without(day, to, part));
        due("without(1, 400, 0)", x.without(1, 400, 0), m.without(1, 400, 0));
        due("mend(" + day + ", " + to + ")", x.mend(day, to), m.mend(day, to));
        if (below(4) == 0) {
            due("mend(1, " + to + ")", x.mend(1, to), m.mend(1, to));
        }
    }

    private void askOld() {
        int p = anyPerson();
        int what = any(3);
        int n = rarely() ? odd() : 1 + below(9);
        int l = any(below(3) == 0 ? 26 : alphabet);
        due("old(" + n + ", -1)", x.old(n, -1), m.old(n, -1));
        due("old(" + n + ", " + l + ")", x.old(n, l), m.old(n, l));
        due("reform(" + p + ", " + what + ")", x.reform(p, what), m.reform(p, what));
        due("nicknames(" + p + ", " + what + ")", x.nicknames(p, what), m.nicknames(p, what));
        due("nicknames(" + p + ", 0)", x.nicknames(p, 0), m.nicknames(p, 0));
        int people = random.nextInt() & (rarely() ? -1 : (1 << m.s.persons.size()) - 1);
        for (int k = 0; k < m.s.persons.size(); k++) {
            if (m.s.persons.get(k).word == null && below(8) > 0) {
                people &= ~(1 << k);
            }
        }
        int total = 0;
        for (int k = 0; k < m.s.persons.size(); k++) {
            total += (people >> k & 1) != 0 && m.s.persons.get(k).word != null ? m.sum(m.called(k)) : 0;
        }
        int sum = rarely() ? odd() : total + below(9) - 4;
        due("page(" + people + ", " + sum + ", " + what + ")", x.page(people, sum, what), m.page(people, sum, what));
        due("page(" + people + ", " + sum + ", 1)", x.page(people, sum, 1), m.page(people, sum, 1));
    }

    private void sheets() {
        int a = any(3);
        int b = any(3);
        int lane = any(below(2) + 2);
        int n = below(3) == 0 ? any(23) - 1 : 4 + below(6);
        int i = below(3) == 0 ? any(21) - 1 : below(3);
        int j = below(3) == 0 ? any(21) - 1 : below(3);
        int v = below(4) == 0 ? random.nextInt() : anyDay();
        int few = any(7);
        int c = any(11);
        int k = any(2);
        switch (below(9)) {
            case 0:
                due("sheet(" + a + ", " + lane + ", " + n + ")", x.sheet(a, lane, n), m.sheet(a, lane, n));
                break;
            case 1:
                if (below(3) == 0) {
                    due("tear(" + a + ")", x.tear(a), m.tear(a));
                }
                break;
            case 2:
            case 3:
                for (int at = -1; at < 8; at++) {
                    due("lay(" + a + ", " + at + ", " + v + ")", x.lay(a, at, v), m.lay(a, at, v));
                    v = below(4) == 0 ? random.nextInt() : anyDay();
                }
                break;
            case 4:
                due("copy(" + a + ", " + i + ", " + b + ", " + j + ", " + few + ")", x.copy(a, i, b, j, few), m.copy(a, i, b, j, few));
                break;
            case 5:
            case 6:
                due("hope(" + a + ", " + lane + ", " + i + ", " + few + ", " + c + ")", x.hope(a, lane, i, few, c), m.hope(a, lane, i, few, c));
                break;
            case 7:
                due("keep(" + k + ")", x.keep(k), m.keep(k));
                break;
            default:
                due("back(" + k + ")", x.back(k), m.back(k));
        }
        int what = any(8);
        due("count(" + what + ")", x.count(what), m.count(what));
    }
}
