import java.math.BigInteger;
import java.util.ArrayList;
import java.util.Arrays;
import java.util.Collections;
import java.util.List;
import java.util.Set;
import java.util.TreeMap;
import java.util.TreeSet;
import java.util.regex.Matcher;
import java.util.regex.Pattern;

/** The document once more, by trying everything that there is, with the Java library: slow and plain, to compare with. */
final class PlainModel {
    static final class Person {
        final int parent;
        final int otherParent;
        final int day;
        final int kind;
        String word;

        Person(int parent, int otherParent, int day, int kind, String word) {
            this.parent = parent;
            this.otherParent = otherParent;
            this.day = day;
            this.kind = kind;
            this.word = word;
        }
    }

    static final class State {
        int[] numbers = new int[26];
        List<String> syllables = new ArrayList<>();
        List<Person> persons = new ArrayList<>();
        List<int[]> hopes = new ArrayList<>();
        int degrees = 3;

        State copied() {
            State s = new State();
            s.numbers = numbers.clone();
            s.syllables = new ArrayList<>(syllables);
            for (Person p : persons) {
                s.persons.add(new Person(p.parent, p.otherParent, p.day, p.kind, p.word));
            }
            s.hopes = new ArrayList<>(hopes);
            s.degrees = degrees;
            return s;
        }
    }

    State s = new State();
    final State[] images = new State[2];
    String text = "";
    final int[] lanes = new int[3];
    final int[][] sheets = new int[3][];

    PlainModel() {
        for (int i = 0; i < 26; i++) {
            s.numbers[i] = i + 1;
        }
    }

    // ---- the text

    int write(long bytes, int n) {
        if (n < 1 || n > 8) return -3;
        if (text.length() + n > 200) return -5;
        for (int i = 0; i < n; i++) text += (char) ((bytes >>> (8 * i)) & 255);
        return text.length();
    }

    int erase() {
        int had = text.length();
        text = "";
        return had;
    }

    private static final String[] LINES = {
        "letter X N", "syl S", "first D W", "child P Q D W", "call P W", "hope D C", "degrees G", "forget"};

    /** {place of the fault or -1, lines}; the lines are done in t. */
    private int[] read(State t) {
        List<String> tokens = new ArrayList<>();
        List<Integer> places = new ArrayList<>();
        Matcher m = Pattern.compile("[a-z]+|[0-9]+|[^ ]", Pattern.DOTALL).matcher(text);
        while (m.find()) {
            tokens.add(m.group());
            places.add(m.start());
        }
        tokens.add("");
        places.add(text.length());
        int at = 0;
        int lines = 0;
        while (true) {
            String template = null;
            for (String line : LINES) {
                if (line.split(" ")[0].equals(tokens.get(at))) template = line;
            }
            boolean newPerson = template != null && (template.startsWith("first") || template.startsWith("child"));
            boolean newHope = template != null && template.startsWith("hope");
            if (template == null || newPerson && t.persons.size() == 16 || newHope && t.hopes.size() == 6) {
                return new int[] {places.get(at), lines};
            }
            String[] slots = template.split(" ");
            String[] said = new String[slots.length];
            for (int k = 0; k < slots.length; k++) {
                said[k] = tokens.get(at);
                if (k > 0 && !fits(t, slots[k], said[k], k > 1 ? said[1] : "")) return new int[] {places.get(at), lines};
                at++;
            }
            doLine(t, said);
            lines++;
            if (tokens.get(at).isEmpty()) return new int[] {-1, lines};
            if (!tokens.get(at).equals(";") || lines == 8) return new int[] {places.get(at), lines};
            at++;
        }
    }

    private static boolean fits(State t, String slot, String token, String secondSaid) {
        switch (slot) {
            case "X": return token.matches("[a-z]");
            case "N": return isNumber(token, 0, 99);
            case "S": return token.matches("[a-z]{1,3}") && t.syllables.size() < 10 && !t.syllables.contains(token);
            case "D": return isNumber(token, 1, 400);
            case "W": return token.matches("[a-z]{1,9}|-");
            case "P": return isNumber(token, 0, t.persons.size() - 1);
            case "Q": return isNumber(token, 0, t.persons.size() - 1) && Integer.parseInt(token) != Integer.parseInt(secondSaid);
            case "C": return isNumber(token, 0, 10);
            default: return isNumber(token, 1, 4);
        }
    }

    private static boolean isNumber(String token, int least, int most) {
        return token.matches("[0-9]{1,3}") && Integer.parseInt(token) >= least && Integer.parseInt(token) <= most;
    }

    private static void doLine(State t, String[] said) {
        switch (said[0]) {
            case "letter": t.numbers[said[1].charAt(0) - 'a'] = Integer.parseInt(said[2]); break;
            case "syl": t.syllables.add(said[1]); break;
            case "first": t.persons.add(new Person(-1, -1, Integer.parseInt(said[1]), 0, wordOf(said[2]))); break;
            case "child": {
                int p = Integer.parseInt(said[1]), q = Integer.parseInt(said[2]), d = Integer.parseInt(said[3]);
                int kind = 1;
                for (Person o : t.persons) {
                    if (o.day == d && o.kind > 0 && Math.min(o.parent, o.otherParent) == Math.min(p, q)
                            && Math.max(o.parent, o.otherParent) == Math.max(p, q)) kind = 2;
                }
                t.persons.add(new Person(p, q, d, kind, wordOf(said[4])));
                break;
            }
            case "call": t.persons.get(Integer.parseInt(said[1])).word = wordOf(said[2]); break;
            case "hope": t.hopes.add(new int[] {Integer.parseInt(said[1]), Integer.parseInt(said[2])}); break;
            case "degrees": t.degrees = Integer.parseInt(said[1]); break;
            default: t.syllables.clear(); t.persons.clear(); t.hopes.clear();
        }
    }

    private static String wordOf(String token) {
        return token.equals("-") ? null : token;
    }

    int fault() {
        return read(s.copied())[0];
    }

    int told() {
        State t = s.copied();
        int[] r = read(t);
        if (r[0] != -1) return -4;
        s = t;
        text = "";
        return r[1];
    }

    // ---- what there is

    private boolean isPerson(int p) {
        return p >= 0 && p < s.persons.size();
    }

    int letter(int letter) {
        return letter < 0 || letter > 25 ? -2 : s.numbers[letter];
    }

    int person(int person, int what) {
        if (!isPerson(person)) return -2;
        Person p = s.persons.get(person);
        int[] answers = {p.day, p.parent, p.otherParent, p.kind, bits(near(person))};
        return what < 0 || what > 4 ? -3 : answers[what];
    }

    private static int bits(Set<Integer> set) {
        int b = 0;
        for (int i : set) b |= 1 << i;
        return b;
    }

    private int[][] distances() {
        int n = s.persons.size();
        int[][] d = new int[n][n];
        for (int[] r : d) Arrays.fill(r, 1000);
        for (int i = 0; i < n; i++) {
            d[i][i] = 0;
            Person p = s.persons.get(i);
            if (p.kind > 0) {
                d[i][p.parent] = d[p.parent][i] = 1;
                d[i][p.otherParent] = d[p.otherParent][i] = 1;
            }
        }
        for (int k = 0; k < n; k++) for (int i = 0; i < n; i++) for (int j = 0; j < n; j++) d[i][j] = Math.min(d[i][j], d[i][k] + d[k][j]);
        return d;
    }

    private Set<Integer> near(int person) {
        Set<Integer> set = new TreeSet<>();
        int[][] d = distances();
        for (int i = 0; i < s.persons.size(); i++) if (i != person && d[person][i] <= s.degrees) set.add(i);
        return set;
    }

    long called(int person) {
        if (!isPerson(person)) return -2;
        String word = s.persons.get(person).word;
        return word == null ? 0 : codeOf(word);
    }

    int degrees(int one, int other) {
        if (!isPerson(one) || !isPerson(other)) return -2;
        int d = distances()[one][other];
        return d >= 1000 ? -1 : d;
    }

    int as(int person, int kind) {
        if (!isPerson(person)) return -2;
        if (kind < 0 || kind > 3) return -3;
        int has = s.persons.get(person).kind;
        boolean is = kind == 0 || kind == 1 && has == 0 || kind == 2 && has >= 1 || kind == 3 && has == 2;
        return is ? near(person).size() : -4;
    }

    // ---- words

    static long codeOf(String word) {
        long code = 0;
        for (char c : word.toCharArray()) code = 27 * code + (c - 'a' + 1);
        return code;
    }

    static String wordOfCode(long code) {
        if (code <= 0) return null;
        StringBuilder b = new StringBuilder();
        for (char c : Long.toString(code, 27).toCharArray()) {
            int digit = Character.digit(c, 27);
            if (digit == 0) return null;
            b.append((char) ('a' + digit - 1));
        }
        return b.length() > 9 ? null : b.toString();
    }

    private static int sumBy(int[] numbers, String word) {
        int sum = 0;
        for (char c : word.toCharArray()) sum += numbers[c - 'a'];
        return sum;
    }

    private int sumOf(String word) {
        return sumBy(s.numbers, word);
    }

    /** All names with their sums, in order. */
    private TreeMap<Long, Integer> allNames() {
        List<String> ends = new ArrayList<>(Collections.singletonList(""));
        TreeMap<Long, Integer> all = new TreeMap<>();
        for (int parts = 1; parts <= 3; parts++) {
            List<String> longer = new ArrayList<>();
            for (String e : ends) for (String syl : s.syllables) longer.add(e + syl);
            for (String w : longer) if (w.chars().allMatch(c -> s.numbers[c - 'a'] > 0)) all.put(codeOf(w), sumOf(w));
            ends = longer;
        }
        return all;
    }

    private List<Long> namesOf(int day) {
        List<Long> list = new ArrayList<>();
        allNames().forEach((code, sum) -> { if (sum == day) list.add(code); });
        return list;
    }

    int sum(long code) {
        String word = wordOfCode(code);
        return word == null ? -3 : sumOf(word);
    }

    int name(long code) {
        return wordOfCode(code) == null ? -3 : allNames().containsKey(code) ? 1 : 0;
    }

    int judge(int person) {
        if (!isPerson(person)) return -2;
        Person p = s.persons.get(person);
        if (p.word == null) return 1;
        if (name(codeOf(p.word)) == 0) return 2;
        if (sumOf(p.word) != p.day) return 3;
        return firstTaker(person) < 0 ? 0 : 4;
    }

    private int firstTaker(int person) {
        for (int o : near(person)) if (s.persons.get(person).word.equals(s.persons.get(o).word)) return o;
        return -1;
    }

    int taker(int person) {
        if (!isPerson(person)) return -2;
        return judge(person) == 4 ? firstTaker(person) : -1;
    }

    private static boolean isDay(int day) {
        return day >= 1 && day <= 400;
    }

    int names(int day, int letters) {
        if (!isDay(day) || letters < 0 || letters > 9) return -3;
        return (int) namesOf(day).stream().filter(c -> letters == 0 || wordOfCode(c).length() == letters).count();
    }

    long which(int day, int i) {
        if (!isDay(day) || i < 0) return -3;
        List<Long> list = namesOf(day);
        return i < list.size() ? list.get(i) : -1;
    }

    private List<Long> freeOf(int day, Set<Integer> near) {
        List<Long> list = namesOf(day);
        for (int o : near) if (s.persons.get(o).word != null) list.remove((Long) codeOf(s.persons.get(o).word));
        return list;
    }

    long free(int person, int i) {
        if (!isPerson(person)) return -2;
        if (i < -1) return -3;
        List<Long> list = freeOf(s.persons.get(person).day, near(person));
        return i == -1 ? list.size() : i < list.size() ? list.get(i) : -1;
    }

    long hopes(int one, int other, int part) {
        if (!isPerson(one) || !isPerson(other)) return -2;
        if (one == other || part < 0 || part > 1) return -3;
        Set<Integer> near = new TreeSet<>(Arrays.asList(one, other));
        int[][] d = distances();
        for (int i = 0; i < s.persons.size(); i++) if (Math.min(d[one][i], d[other][i]) <= s.degrees - 1) near.add(i);
        // days do not hang together, and on one day only how many come counts: chance of k coming, child by child
        BigInteger above = BigInteger.ONE, below = BigInteger.TEN.pow(s.hopes.size());
        Set<Integer> days = new TreeSet<>();
        for (int[] h : s.hopes) days.add(h[0]);
        for (int day : days) {
            long[] byCount = {1, 0, 0, 0, 0, 0, 0};
            for (int[] h : s.hopes) {
                if (h[0] != day) continue;
                for (int k = 6; k >= 0; k--) byCount[k] = byCount[k] * (10 - h[1]) + (k > 0 ? byCount[k - 1] * h[1] : 0);
            }
            int room = freeOf(day, near).size();
            long good = 0;
            for (int k = 0; k <= 6 && k <= room; k++) good += byCount[k];
            above = above.multiply(BigInteger.valueOf(good));
        }
        BigInteger g = above.gcd(below);
        return (part == 0 ? above : below).divide(g).longValue();
    }

    private List<Integer> daysWithout(int from, int to) {
        Set<Integer> sums = new TreeSet<>(allNames().values());
        List<Integer> list = new ArrayList<>();
        for (int d = from; d <= to; d++) if (!sums.contains(d)) list.add(d);
        return list;
    }

    int without(int from, int to, int what) {
        if (!isDay(from) || !isDay(to) || to < from || what < 0 || what > 1) return -3;
        List<Integer> list = daysWithout(from, to);
        return what == 0 ? list.size() : list.isEmpty() ? -1 : list.get(0);
    }

    long mend(int from, int to) {
        if (!isDay(from) || !isDay(to) || to < from) return -3;
        List<Integer> missing = daysWithout(from, to);
        if (missing.isEmpty()) return 0;
        if (s.syllables.size() == 10) return -4;
        for (int first = -1; first < 26; first++) {
            for (int second = 0; second < 26; second++) {
                String syl = (first < 0 ? "" : "" + (char) ('a' + first)) + (char) ('a' + second);
                boolean good = syl.chars().allMatch(c -> s.numbers[c - 'a'] > 0) && !s.syllables.contains(syl);
                if (good && coversWith(syl, missing)) return codeOf(syl);
            }
        }
        return -1;
    }

    private boolean coversWith(String syl, List<Integer> missing) {
        List<Integer> sums = new ArrayList<>(Collections.singletonList(0));
        List<String> all = new ArrayList<>(s.syllables);
        all.add(syl);
        for (String a : all) if (a.chars().allMatch(c -> s.numbers[c - 'a'] > 0)) sums.add(sumOf(a));
        boolean[] made = new boolean[3000];
        for (int a : sums) for (int b : sums) for (int c : sums) made[a + b + c] = true;
        for (int d : missing) if (!made[d]) return false;
        return true;
    }

    // ---- old names, reforms, nicknames, pages

    int old(int n, int letter) {
        if (letter < -1 || letter > 25) return -2;
        if (n < 1 || n > 9) return -3;
        TreeSet<Character> letters = new TreeSet<>();
        for (Person p : s.persons) if (p.word != null) for (char c : p.word.toCharArray()) letters.add(c);
        if (letters.size() > 5) return -4;
        List<Character> list = new ArrayList<>(letters);
        int total = (int) Math.round(Math.pow(n, list.size()));
        int ways = 0;
        int[] first = null;
        for (int k = 0; k < total; k++) {
            int[] numbers = new int[26];
            int rest = k;
            for (int i = list.size() - 1; i >= 0; i--) {
                numbers[list.get(i) - 'a'] = rest % n + 1;
                rest /= n;
            }
            boolean all = true;
            for (Person p : s.persons) all &= p.word == null || sumBy(numbers, p.word) == p.day;
            if (all) {
                ways++;
                if (first == null) first = numbers;
            }
        }
        return letter == -1 ? ways : first == null ? -1 : first[letter];
    }

    int reform(int person, int what) {
        if (!isPerson(person)) return -2;
        if (what < 0 || what > 2) return -3;
        Person p = s.persons.get(person);
        if (p.word == null) return -4;
        int[] best = null;
        for (int x = 0; x < 26; x++) {
            for (int v = 1; v <= 99; v++) {
                int[] numbers = s.numbers.clone();
                numbers[x] = v;
                if (v == s.numbers[x] || sumBy(numbers, p.word) != p.day) continue;
                int anew = 0;
                for (Person o : s.persons) {
                    if (o != p && o.word != null && sumOf(o.word) == o.day && sumBy(numbers, o.word) != o.day) anew++;
                }
                if (best == null || anew < best[2]) best = new int[] {x, v, anew};
            }
        }
        return best == null ? -1 : best[what];
    }

    long nicknames(int person, int what) {
        if (!isPerson(person)) return -2;
        if (what < 0 || what > 1) return -3;
        Person p = s.persons.get(person);
        if (p.word == null) return -4;
        Set<Long> names = allNames().keySet();
        TreeSet<Long> found = new TreeSet<>();
        for (int left = 1; left < (1 << p.word.length()) - 1; left++) {
            StringBuilder b = new StringBuilder();
            for (int i = 0; i < p.word.length(); i++) if ((left >> i & 1) != 0) b.append(p.word.charAt(i));
            String nick = b.toString();
            if (names.contains(codeOf(nick)) && p.day % sumOf(nick) == 0) found.add(codeOf(nick));
        }
        return what == 0 ? found.size() : found.isEmpty() ? -1 : found.first();
    }

    int page(int people, int sum, int what) {
        List<Integer> list = new ArrayList<>();
        for (int b = 0; b < 32; b++) {
            if ((people >>> b & 1) != 0) {
                if (!isPerson(b)) return -3;
                list.add(b);
            }
        }
        if (sum < 0 || sum > 9999 || what < 0 || what > 1) return -3;
        int total = 0;
        for (int p : list) {
            if (s.persons.get(p).word == null) return -4;
            total += sumOf(s.persons.get(p).word);
        }
        int changes = 0;
        int first = -1;
        for (int p : list) {
            String word = s.persons.get(p).word;
            for (int i = 0; i < word.length(); i++) {
                for (char c = 'a'; c <= 'z'; c++) {
                    String other = word.substring(0, i) + c + word.substring(i + 1);
                    if (!other.equals(word) && s.numbers[c - 'a'] > 0 && total - sumOf(word) + sumOf(other) == sum) {
                        changes++;
                        if (first < 0) first = p;
                    }
                }
            }
        }
        return what == 0 ? changes : first;
    }

    // ---- sheets, images

    private static boolean isSheet(int sheet) {
        return sheet >= 0 && sheet <= 2;
    }

    int sheet(int sheet, int lane, int n) {
        if (!isSheet(sheet)) return -2;
        if (lane < 0 || lane > 2 || n > 20) return -3;
        if (n < 0) return -14;
        lanes[sheet] = lane;
        sheets[sheet] = new int[n];
        return 1;
    }

    int tear(int sheet) {
        if (!isSheet(sheet)) return -2;
        sheets[sheet] = null;
        return 1;
    }

    int lay(int sheet, int i, int v) {
        if (!isSheet(sheet)) return -2;
        if (sheets[sheet] == null) return -11;
        if (i < 0 || i >= sheets[sheet].length) return -13;
        int away = 32 - (8 << lanes[sheet]);
        sheets[sheet][i] = v << away >> away;
        return 1;
    }

    int copy(int sheet, int i, int other, int j, int n) {
        if (!isSheet(sheet) || !isSheet(other)) return -2;
        if (sheets[sheet] == null || sheets[other] == null) return -11;
        if (lanes[sheet] != lanes[other]) return -12;
        if (i < 0 || j < 0 || n < 0 || (long) i + n > sheets[sheet].length || (long) j + n > sheets[other].length) return -13;
        int[] taken = Arrays.copyOfRange(sheets[sheet], i, i + n);
        for (int k = 0; k < n; k++) sheets[other][j + k] = taken[k];
        return 1;
    }

    int hope(int sheet, int lane, int i, int n, int c) {
        if (!isSheet(sheet)) return -2;
        if (lane < 0 || lane > 2 || n < 1 || n > 6 || c < 0 || c > 10) return -3;
        if (sheets[sheet] == null) return -11;
        if (lanes[sheet] != lane) return -12;
        if (i < 0 || (long) i + n > sheets[sheet].length) return -13;
        for (int k = i; k < i + n; k++) if (!isDay(sheets[sheet][k])) return -4;
        if (s.hopes.size() + n > 6) return -5;
        for (int k = i; k < i + n; k++) s.hopes.add(new int[] {sheets[sheet][k], c});
        return s.hopes.size();
    }

    int keep(int k) {
        if (k < 0 || k > 1) return -2;
        images[k] = s.copied();
        return s.persons.size();
    }

    int back(int k) {
        if (k < 0 || k > 1) return -2;
        if (images[k] == null) return -4;
        s = images[k].copied();
        return s.persons.size();
    }

    int count(int what) {
        if (what < 0 || what > 7) return -3;
        if (what > 4) return sheets[what - 5] == null ? -1 : sheets[what - 5].length;
        return new int[] {s.persons.size(), s.syllables.size(), s.hopes.size(), s.degrees, text.length()}[what];
    }
}
