/** Names that must add up to the day of birth; the numbered promises of the document say what each call answers. */
public final class SumNames {
    public static final int NONE = -1, UNKNOWN = -2, OUTSIDE = -3, NOT = -4, FULL = -5, NULL = -11, CAST = -12, INDEX = -13, SIZE = -14;

    private static final int LETTERS = 26;
    private static final int BASE = 27;
    private static final int MOST_NUMBER = 99;
    private static final int MOST_SYLLABLES = 10;
    private static final int MOST_LETTERS_OF_SYLLABLE = 3;
    private static final int MOST_PARTS = 3;
    private static final int MOST_LETTERS_OF_WORD = 9;
    private static final long MOST_CODE = 7625597484986L;
    private static final int LAST_DAY = 400;
    private static final int MOST_PERSONS = 16;
    private static final int FIRST = 0, CHILD = 1, TWIN = 2;
    private static final int DEGREES_AT_FIRST = 3;
    private static final int MOST_DEGREES = 4;
    private static final int MOST_HOPES = 6;
    private static final int TENTHS = 10;
    private static final int MOST_BYTES = 200;
    private static final int MOST_LINES = 8;
    private static final int MOST_DIGITS = 3;
    private static final int MOST_OLD_LETTERS = 5;
    private static final int MOST_OLD_NUMBER = 9;
    private static final int MOST_PAGE_SUM = 9999;
    private static final int SHEETS = 3;
    private static final int BYTES = 0, SHORTS = 1, INTS = 2;
    private static final int MOST_ITEMS = 20;
    private static final int IMAGES = 2;
    // 10 of one syllable, 100 of two, 1000 of three
    private static final int MOST_NAMES = 1110;
    // two letters of 99 each
    private static final int MOST_MENDING_SUM = 198;
    private static final long MOST_MENDING_CODE = 728;

    private final World now = new World();
    private final World[] images = new World[IMAGES];
    private final Reader reader = new Reader();
    private final NameRow row = new NameRow();
    private final Reach reach = new Reach();
    private final OldNames oldNames = new OldNames();
    private final Sheet[] sheets = new Sheet[SHEETS];
    private final int[] rooms = new int[MOST_HOPES];

    public SumNames() {
        for (int i = 0; i < SHEETS; i++) {
            sheets[i] = new Sheet();
        }
    }

    // ---- what is told

    public int write(long bytes, int n) {
        if (n < 1 || n > 8) {
            return OUTSIDE;
        }
        return reader.append(bytes, n) ? reader.length : FULL;
    }

    public int erase() {
        int had = reader.length;
        reader.length = 0;
        return had;
    }

    public int fault() {
        return reader.read(now);
    }

    public int told() {
        if (reader.read(now) != NONE) {
            return NOT;
        }
        now.takeFrom(reader.draft);
        reader.length = 0;
        return reader.lines;
    }

    public int letter(int letter) {
        return isLetter(letter) ? now.numbers[letter] : UNKNOWN;
    }

    public int person(int person, int what) {
        if (!now.isPerson(person)) {
            return UNKNOWN;
        }
        switch (what) {
            case 0:
                return now.days[person];
            case 1:
                return now.parents[person];
            case 2:
                return now.otherParents[person];
            case 3:
                return now.kinds[person];
            case 4:
                return now.nearOf(person);
            default:
                return OUTSIDE;
        }
    }

    public long called(int person) {
        return now.isPerson(person) ? now.words[person] : UNKNOWN;
    }

    public int degrees(int one, int other) {
        if (!now.isPerson(one) || !now.isPerson(other)) {
            return UNKNOWN;
        }
        return now.stepsBetween(one, other);
    }

    public int as(int person, int kind) {
        if (!now.isPerson(person)) {
            return UNKNOWN;
        }
        if (kind < 0 || kind > 3) {
            return OUTSIDE;
        }
        return isOfKind(now.kinds[person], kind) ? Integer.bitCount(now.nearOf(person)) : NOT;
    }

    private static boolean isOfKind(int has, int asked) {
        switch (asked) {
            case 1:
                return has == FIRST;
            case 2:
                return has == CHILD || has == TWIN;
            case 3:
                return has == TWIN;
            default:
                return true;
        }
    }

    // ---- names

    public int sum(long code) {
        return lettersOf(code) == 0 ? OUTSIDE : now.sumOf(code);
    }

    public int name(long code) {
        if (lettersOf(code) == 0) {
            return OUTSIDE;
        }
        return now.isName(code) ? 1 : 0;
    }

    public int judge(int person) {
        return now.isPerson(person) ? now.faultOfName(person) : UNKNOWN;
    }

    public int taker(int person) {
        if (!now.isPerson(person)) {
            return UNKNOWN;
        }
        if (now.faultOfName(person) != 4) {
            return NONE;
        }
        return now.leastCalled(now.words[person], now.nearOf(person));
    }

    public int names(int day, int letters) {
        if (!isDay(day) || letters < 0 || letters > MOST_LETTERS_OF_WORD) {
            return OUTSIDE;
        }
        row.gather(now, day, false);
        if (letters == 0) {
            return row.size;
        }
        int found = 0;
        for (int i = 0; i < row.size; i++) {
            if (lettersOf(row.codes[i]) == letters) {
                found++;
            }
        }
        return found;
    }

    public long which(int day, int i) {
        if (!isDay(day) || i < 0) {
            return OUTSIDE;
        }
        row.gather(now, day, false);
        return i < row.size ? row.codes[i] : NONE;
    }

    public long free(int person, int i) {
        if (!now.isPerson(person)) {
            return UNKNOWN;
        }
        if (i < NONE) {
            return OUTSIDE;
        }
        row.gather(now, now.days[person], false);
        row.dropCalled(now, now.nearOf(person));
        if (i == NONE) {
            return row.size;
        }
        return i < row.size ? row.codes[i] : NONE;
    }

    public long hopes(int one, int other, int part) {
        if (!now.isPerson(one) || !now.isPerson(other)) {
            return UNKNOWN;
        }
        if (one == other || !isZeroOrOne(part)) {
            return OUTSIDE;
        }
        findRooms(now.nearChildOf(one, other));
        long above = waysWithNames();
        long below = 1;
        for (int i = 0; i < now.hopeCount; i++) {
            below *= TENTHS;
        }
        long common = commonDivisor(above, below);
        return (part == 0 ? above : below) / common;
    }

    /** For each hope, how many names its day has for a child to whom these persons are near. */
    private void findRooms(int near) {
        for (int i = 0; i < now.hopeCount; i++) {
            row.gather(now, now.hopeDays[i], false);
            row.dropCalled(now, near);
            rooms[i] = row.size;
        }
    }

    /** Of 10 to the power of hopes equal cases, those in which each child that comes has a name. */
    private long waysWithNames() {
        long ways = 0;
        for (int coming = 0; coming < 1 << now.hopeCount; coming++) {
            if (allHaveNames(coming)) {
                ways += waysOfComing(coming);
            }
        }
        return ways;
    }

    private boolean allHaveNames(int coming) {
        for (int i = 0; i < now.hopeCount; i++) {
            if ((coming >> i & 1) != 0 && comingWith(coming, i) > rooms[i]) {
                return false;
            }
        }
        return true;
    }

    /** How many come on the day of one hope, itself among them. */
    private int comingWith(int coming, int hope) {
        int found = 0;
        for (int i = 0; i < now.hopeCount; i++) {
            if ((coming >> i & 1) != 0 && now.hopeDays[i] == now.hopeDays[hope]) {
                found++;
            }
        }
        return found;
    }

    private long waysOfComing(int coming) {
        long ways = 1;
        for (int i = 0; i < now.hopeCount; i++) {
            int tenths = now.hopeTenths[i];
            ways *= (coming >> i & 1) != 0 ? tenths : TENTHS - tenths;
        }
        return ways;
    }

    public int without(int from, int to, int what) {
        if (!areDays(from, to) || !isZeroOrOne(what)) {
            return OUTSIDE;
        }
        reach.measure(now);
        return what == 0 ? reach.daysWithout(from, to) : reach.firstWithout(from, to);
    }

    public long mend(int from, int to) {
        if (!areDays(from, to)) {
            return OUTSIDE;
        }
        reach.measure(now);
        if (reach.firstWithout(from, to) == NONE) {
            return 0;
        }
        return now.syllableCount >= MOST_SYLLABLES ? NOT : reach.mendingSyllable(now, from, to);
    }

    // ---- old names, reforms, nicknames, pages

    public int old(int n, int letter) {
        if (letter != NONE && !isLetter(letter)) {
            return UNKNOWN;
        }
        if (n < 1 || n > MOST_OLD_NUMBER) {
            return OUTSIDE;
        }
        if (!oldNames.solve(now, n)) {
            return NOT;
        }
        return letter == NONE ? oldNames.ways : oldNames.firstNumberOf(letter);
    }

    public int reform(int person, int what) {
        if (!now.isPerson(person)) {
            return UNKNOWN;
        }
        if (what < 0 || what > 2) {
            return OUTSIDE;
        }
        if (now.words[person] == 0) {
            return NOT;
        }
        int letter = bestReformedLetter(person);
        if (letter == NONE || what == 0) {
            return letter;
        }
        return what == 1 ? reformedNumber(person, letter) : calledAnew(person, letter);
    }

    private int bestReformedLetter(int person) {
        int best = NONE;
        int fewest = MOST_PERSONS;
        for (int letter = 0; letter < LETTERS; letter++) {
            if (reformedNumber(person, letter) != NONE && calledAnew(person, letter) < fewest) {
                best = letter;
                fewest = calledAnew(person, letter);
            }
        }
        return best;
    }

    /** The least other number of a letter by which the person's sum is its day; a letter of its word has at most one. */
    private int reformedNumber(int person, int letter) {
        int has = now.numbers[letter];
        int times = timesIn(now.words[person], letter);
        int missing = now.days[person] - now.sumOf(now.words[person]);
        if (times == 0) {
            return missing != 0 ? NONE : has == 1 ? 2 : 1;
        }
        if (missing == 0 || missing % times != 0) {
            return NONE;
        }
        int number = has + missing / times;
        return number >= 1 && number <= MOST_NUMBER ? number : NONE;
    }

    /** Any other number moves the sums of all words with the letter, so the number itself does not count here. */
    private int calledAnew(int person, int letter) {
        int found = 0;
        for (int p = 0; p < now.personCount; p++) {
            if (p != person && now.addsUp(p) && timesIn(now.words[p], letter) > 0) {
                found++;
            }
        }
        return found;
    }

    public long nicknames(int person, int what) {
        if (!now.isPerson(person)) {
            return UNKNOWN;
        }
        if (!isZeroOrOne(what)) {
            return OUTSIDE;
        }
        if (now.words[person] == 0) {
            return NOT;
        }
        row.gather(now, now.days[person], true);
        row.dropNoNicknames(now.words[person]);
        if (what == 0) {
            return row.size;
        }
        return row.size > 0 ? row.codes[0] : NONE;
    }

    public int page(int people, int sum, int what) {
        if ((people & -1 << now.personCount) != 0 || sum < 0 || sum > MOST_PAGE_SUM || !isZeroOrOne(what)) {
            return OUTSIDE;
        }
        if (now.leastCalled(0, people) != NONE) {
            return NOT;
        }
        int missing = sum - now.sumOfAll(people);
        int changes = 0;
        for (int p = 0; p < now.personCount; p++) {
            int found = (people >> p & 1) != 0 ? now.changesBy(now.words[p], missing) : 0;
            if (found > 0 && what == 1) {
                return p;
            }
            changes += found;
        }
        return what == 0 ? changes : NONE;
    }

    // ---- sheets, images

    public int sheet(int sheet, int lane, int n) {
        if (!isSheet(sheet)) {
            return UNKNOWN;
        }
        if (!isLane(lane) || n > MOST_ITEMS) {
            return OUTSIDE;
        }
        if (n < 0) {
            return SIZE;
        }
        sheets[sheet].begin(lane, n);
        return 1;
    }

    public int tear(int sheet) {
        if (!isSheet(sheet)) {
            return UNKNOWN;
        }
        sheets[sheet].size = NONE;
        return 1;
    }

    public int lay(int sheet, int i, int v) {
        if (!isSheet(sheet)) {
            return UNKNOWN;
        }
        if (sheets[sheet].isMissing()) {
            return NULL;
        }
        if (!sheets[sheet].hasPlaces(i, 1)) {
            return INDEX;
        }
        sheets[sheet].put(i, v);
        return 1;
    }

    public int copy(int sheet, int i, int other, int j, int n) {
        if (!isSheet(sheet) || !isSheet(other)) {
            return UNKNOWN;
        }
        Sheet from = sheets[sheet];
        Sheet to = sheets[other];
        if (from.isMissing() || to.isMissing()) {
            return NULL;
        }
        if (from.lane != to.lane) {
            return CAST;
        }
        if (!from.hasPlaces(i, n) || !to.hasPlaces(j, n)) {
            return INDEX;
        }
        System.arraycopy(from.items, i, to.items, j, n);
        return 1;
    }

    public int hope(int sheet, int lane, int i, int n, int c) {
        if (!isSheet(sheet)) {
            return UNKNOWN;
        }
        if (!isLane(lane) || n < 1 || n > MOST_HOPES || c < 0 || c > TENTHS) {
            return OUTSIDE;
        }
        Sheet from = sheets[sheet];
        if (from.isMissing()) {
            return NULL;
        }
        if (from.lane != lane) {
            return CAST;
        }
        if (!from.hasPlaces(i, n)) {
            return INDEX;
        }
        if (!from.hasOnlyDays(i, n)) {
            return NOT;
        }
        if (n > MOST_HOPES - now.hopeCount) {
            return FULL;
        }
        for (int k = 0; k < n; k++) {
            now.addHope(from.items[i + k], c);
        }
        return now.hopeCount;
    }

    public int keep(int k) {
        if (!isImage(k)) {
            return UNKNOWN;
        }
        if (images[k] == null) {
            images[k] = new World();
        }
        images[k].takeFrom(now);
        return now.personCount;
    }

    public int back(int k) {
        if (!isImage(k)) {
            return UNKNOWN;
        }
        if (images[k] == null) {
            return NOT;
        }
        now.takeFrom(images[k]);
        return now.personCount;
    }

    public int count(int what) {
        switch (what) {
            case 0:
                return now.personCount;
            case 1:
                return now.syllableCount;
            case 2:
                return now.hopeCount;
            case 3:
                return now.degreesTold;
            case 4:
                return reader.length;
            case 5:
            case 6:
            case 7:
                return sheets[what - 5].size;
            default:
                return OUTSIDE;
        }
    }

    // ---- bounds, words

    private static boolean isLetter(int letter) {
        return letter >= 0 && letter < LETTERS;
    }

    private static boolean isDay(int day) {
        return day >= 1 && day <= LAST_DAY;
    }

    private static boolean areDays(int from, int to) {
        return isDay(from) && isDay(to) && from <= to;
    }

    private static boolean isZeroOrOne(int number) {
        return number == 0 || number == 1;
    }

    private static boolean isSheet(int sheet) {
        return sheet >= 0 && sheet < SHEETS;
    }

    private static boolean isLane(int lane) {
        return lane >= BYTES && lane <= INTS;
    }

    private static boolean isImage(int k) {
        return k >= 0 && k < IMAGES;
    }

    /** How many letters the word of a code has; 0 if it is the code of none. */
    private static int lettersOf(long code) {
        if (code < 1 || code > MOST_CODE) {
            return 0;
        }
        int letters = 0;
        long rest = code;
        while (letters < MOST_LETTERS_OF_WORD && rest > 0) {
            if (rest % BASE == 0) {
                return 0;
            }
            rest /= BASE;
            letters++;
        }
        return letters;
    }

    /** The letter with which the word of a code ends; NONE behind its first. */
    private static int lastLetter(long code) {
        return (int) (code % BASE) - 1;
    }

    private static int timesIn(long code, int letter) {
        int times = 0;
        long rest = code;
        for (int i = 0; i < MOST_LETTERS_OF_WORD && rest > 0; i++) {
            if (lastLetter(rest) == letter) {
                times++;
            }
            rest /= BASE;
        }
        return times;
    }

    /** Whether one word is another one, some letters or none left out. */
    private static boolean isLeftOf(long part, long whole) {
        long unmatched = part;
        long rest = whole;
        for (int i = 0; i < MOST_LETTERS_OF_WORD && rest > 0; i++) {
            if (unmatched > 0 && lastLetter(unmatched) == lastLetter(rest)) {
                unmatched /= BASE;
            }
            rest /= BASE;
        }
        return unmatched == 0;
    }

    /** At least 1, whatever the numbers, as it divides. */
    private static long commonDivisor(long one, long other) {
        long a = one;
        long b = other;
        for (int i = 0; i < 100 && b != 0; i++) {
            long rest = a % b;
            a = b;
            b = rest;
        }
        return Math.max(1, a);
    }

    /** All that an image keeps: letters, syllables, persons, hopes, degrees. */
    private static final class World {
        final int[] numbers = new int[LETTERS];
        final long[] syllables = new long[MOST_SYLLABLES];
        int syllableCount = 0;
        final int[] days = new int[MOST_PERSONS];
        final long[] words = new long[MOST_PERSONS];
        final int[] parents = new int[MOST_PERSONS];
        final int[] otherParents = new int[MOST_PERSONS];
        final int[] kinds = new int[MOST_PERSONS];
        int personCount = 0;
        final int[] hopeDays = new int[MOST_HOPES];
        final int[] hopeTenths = new int[MOST_HOPES];
        int hopeCount = 0;
        int degreesTold = DEGREES_AT_FIRST;

        World() {
            for (int i = 0; i < LETTERS; i++) {
                numbers[i] = i + 1;
            }
        }

        void takeFrom(World other) {
            System.arraycopy(other.numbers, 0, numbers, 0, LETTERS);
            System.arraycopy(other.syllables, 0, syllables, 0, MOST_SYLLABLES);
            syllableCount = other.syllableCount;
            System.arraycopy(other.days, 0, days, 0, MOST_PERSONS);
            System.arraycopy(other.words, 0, words, 0, MOST_PERSONS);
            System.arraycopy(other.parents, 0, parents, 0, MOST_PERSONS);
            System.arraycopy(other.otherParents, 0, otherParents, 0, MOST_PERSONS);
            System.arraycopy(other.kinds, 0, kinds, 0, MOST_PERSONS);
            personCount = other.personCount;
            System.arraycopy(other.hopeDays, 0, hopeDays, 0, MOST_HOPES);
            System.arraycopy(other.hopeTenths, 0, hopeTenths, 0, MOST_HOPES);
            hopeCount = other.hopeCount;
            degreesTold = other.degreesTold;
        }

        void forgetAll() {
            syllableCount = 0;
            personCount = 0;
            hopeCount = 0;
        }

        /** False, and nothing is added, if there is no room or there is that syllable. */
        boolean addSyllable(long code) {
            if (syllableCount >= MOST_SYLLABLES || isSyllable(code)) {
                return false;
            }
            syllables[syllableCount] = code;
            syllableCount++;
            return true;
        }

        void addPerson(int parent, int otherParent, int day, long word) {
            if (personCount >= MOST_PERSONS) {
                return;
            }
            kinds[personCount] = kindOf(parent, otherParent, day);
            parents[personCount] = parent;
            otherParents[personCount] = otherParent;
            days[personCount] = day;
            words[personCount] = word;
            personCount++;
        }

        private int kindOf(int parent, int otherParent, int day) {
            if (parent == NONE) {
                return FIRST;
            }
            for (int p = 0; p < personCount; p++) {
                boolean same = parents[p] == parent && otherParents[p] == otherParent;
                boolean turned = parents[p] == otherParent && otherParents[p] == parent;
                if (days[p] == day && (same || turned)) {
                    return TWIN;
                }
            }
            return CHILD;
        }

        void addHope(int day, int tenths) {
            if (hopeCount >= MOST_HOPES) {
                return;
            }
            hopeDays[hopeCount] = day;
            hopeTenths[hopeCount] = tenths;
            hopeCount++;
        }

        boolean isPerson(int person) {
            return person >= 0 && person < personCount;
        }

        boolean isSyllable(long code) {
            for (int i = 0; i < syllableCount; i++) {
                if (syllables[i] == code) {
                    return true;
                }
            }
            return false;
        }

        int sumOf(long code) {
            int sum = 0;
            long rest = code;
            for (int i = 0; i < MOST_LETTERS_OF_WORD && rest > 0; i++) {
                int letter = lastLetter(rest);
                if (isLetter(letter)) {
                    sum += numbers[letter];
                }
                rest /= BASE;
            }
            return sum;
        }

        /** The sum of a word that may stand in a name; 0 if a letter of it has no number above 0. */
        int sumInNames(long code) {
            long rest = code;
            for (int i = 0; i < MOST_LETTERS_OF_WORD && rest > 0; i++) {
                int letter = lastLetter(rest);
                if (!isLetter(letter) || numbers[letter] == 0) {
                    return 0;
                }
                rest /= BASE;
            }
            return sumOf(code);
        }

        boolean isName(long code) {
            return sumInNames(code) > 0 && isParted(code, MOST_PARTS);
        }

        private boolean isParted(long code, int parts) {
            if (code == 0) {
                return true;
            }
            if (parts == 0) {
                return false;
            }
            long shift = BASE;
            for (int letters = 1; letters <= MOST_LETTERS_OF_SYLLABLE; letters++) {
                if (isSyllable(code % shift) && isParted(code / shift, parts - 1)) {
                    return true;
                }
                shift *= BASE;
            }
            return false;
        }

        boolean addsUp(int person) {
            return words[person] != 0 && sumOf(words[person]) == days[person];
        }

        int faultOfName(int person) {
            long word = words[person];
            if (word == 0) {
                return 1;
            }
            if (!isName(word)) {
                return 2;
            }
            if (!addsUp(person)) {
                return 3;
            }
            return leastCalled(word, nearOf(person)) == NONE ? 0 : 4;
        }

        /** The least of some persons, by bits, that is called by a word, or, by 0, nothing. */
        int leastCalled(long word, int among) {
            for (int p = 0; p < personCount; p++) {
                if ((among >> p & 1) != 0 && words[p] == word) {
                    return p;
                }
            }
            return NONE;
        }

        int nearOf(int person) {
            return within(person, degreesTold) & ~(1 << person);
        }

        /** Who is near a child of these two, were it told. */
        int nearChildOf(int one, int other) {
            return within(one, degreesTold - 1) | within(other, degreesTold - 1);
        }

        /** The persons so many steps or fewer away, itself among them, by bits. */
        private int within(int person, int steps) {
            int reached = 1 << person;
            for (int i = 0; i < steps; i++) {
                reached = oneStepMore(reached);
            }
            return reached;
        }

        private int oneStepMore(int reached) {
            int more = reached;
            for (int p = 0; p < personCount; p++) {
                if (kinds[p] != FIRST) {
                    int both = 1 << parents[p] | 1 << otherParents[p];
                    more |= (reached & both) != 0 ? 1 << p : 0;
                    more |= (reached >> p & 1) != 0 ? both : 0;
                }
            }
            return more;
        }

        int stepsBetween(int one, int other) {
            int reached = 1 << one;
            for (int steps = 0; steps < MOST_PERSONS; steps++) {
                if ((reached >> other & 1) != 0) {
                    return steps;
                }
                reached = oneStepMore(reached);
            }
            return NONE;
        }

        int sumOfAll(int people) {
            int sum = 0;
            for (int p = 0; p < personCount; p++) {
                if ((people >> p & 1) != 0) {
                    sum += sumOf(words[p]);
                }
            }
            return sum;
        }

        /** How many changes of one letter of a word into another one, of a number above 0, make its sum greater by so much. */
        int changesBy(long word, int more) {
            int found = 0;
            long rest = word;
            for (int i = 0; i < MOST_LETTERS_OF_WORD && rest > 0; i++) {
                int letter = lastLetter(rest);
                if (isLetter(letter)) {
                    found += othersOfNumber(numbers[letter] + more, letter);
                }
                rest /= BASE;
            }
            return found;
        }

        private int othersOfNumber(int number, int but) {
            int found = 0;
            for (int letter = 0; letter < LETTERS; letter++) {
                if (letter != but && number > 0 && numbers[letter] == number) {
                    found++;
                }
            }
            return found;
        }
    }

    /** The text, and how it is read: its lines are done in a draft, so that a fault leaves the world as it was. */
    private static final class Reader {
        private static final int END = 0, WORD = 1, NUMBER = 2, SIGN = 3;
        private static final int BLANK = 32, NOTHING = 45, BETWEEN_LINES = 59;

        final int[] text = new int[MOST_BYTES];
        int length = 0;
        final World draft = new World();
        int lines = 0;
        private int place = 0;
        // the token read last: what it is, where it begins, its bytes, its code, number or byte
        private int token = END;
        private int begin = 0;
        private int bytes = 0;
        private long value = 0;
        // of the person whose line is read
        private int parent = NONE;
        private int otherParent = NONE;

        /** False, and nothing is added, if there is no room for all. */
        boolean append(long more, int n) {
            if (n > MOST_BYTES - length) {
                return false;
            }
            for (int i = 0; i < n; i++) {
                text[length] = (int) (more >> 8 * i & 255);
                length++;
            }
            return true;
        }

        /** Does the lines in the draft, from how it is in a world: the place of the first fault; NONE. */
        int read(World world) {
            draft.takeFrom(world);
            place = 0;
            for (int line = 1; line <= MOST_LINES; line++) {
                if (!readLine()) {
                    return begin;
                }
                lines = line;
                readToken();
                if (token == END) {
                    return NONE;
                }
                if (token != SIGN || value != BETWEEN_LINES) {
                    return begin;
                }
            }
            return begin;
        }

        /** False if the token read last is a fault; so are all that follow here. */
        private boolean readLine() {
            readToken();
            if (token != WORD) {
                return false;
            }
            if (says("letter")) {
                return readLetter();
            }
            if (says("syl")) {
                return readWord(MOST_LETTERS_OF_SYLLABLE) && draft.addSyllable(value);
            }
            if (says("first")) {
                return draft.personCount < MOST_PERSONS && readNoParents() && readBirth();
            }
            if (says("child")) {
                return draft.personCount < MOST_PERSONS && readParents() && readBirth();
            }
            if (says("call")) {
                return readCall();
            }
            if (says("hope")) {
                return readHope();
            }
            if (says("degrees")) {
                return readDegrees();
            }
            return says("forget") && readForget();
        }

        private boolean readLetter() {
            if (!readWord(1)) {
                return false;
            }
            int letter = lastLetter(value);
            if (!isLetter(letter) || !readNumber(0, MOST_NUMBER)) {
                return false;
            }
            draft.numbers[letter] = (int) value;
            return true;
        }

        private boolean readNoParents() {
            parent = NONE;
            otherParent = NONE;
            return true;
        }

        private boolean readParents() {
            if (!readPerson()) {
                return false;
            }
            parent = (int) value;
            if (!readPerson() || value == parent) {
                return false;
            }
            otherParent = (int) value;
            return true;
        }

        private boolean readBirth() {
            if (!readNumber(1, LAST_DAY)) {
                return false;
            }
            int day = (int) value;
            if (!readWordOrNothing()) {
                return false;
            }
            draft.addPerson(parent, otherParent, day, value);
            return true;
        }

        private boolean readCall() {
            if (!readPerson()) {
                return false;
            }
            int person = (int) value;
            if (!readWordOrNothing()) {
                return false;
            }
            draft.words[person] = value;
            return true;
        }

        private boolean readHope() {
            if (draft.hopeCount >= MOST_HOPES || !readNumber(1, LAST_DAY)) {
                return false;
            }
            int day = (int) value;
            if (!readNumber(0, TENTHS)) {
                return false;
            }
            draft.addHope(day, (int) value);
            return true;
        }

        private boolean readDegrees() {
            if (!readNumber(1, MOST_DEGREES)) {
                return false;
            }
            draft.degreesTold = (int) value;
            return true;
        }

        private boolean readForget() {
            draft.forgetAll();
            return true;
        }

        private boolean readPerson() {
            return readNumber(0, draft.personCount - 1);
        }

        private boolean readNumber(int least, int most) {
            readToken();
            return token == NUMBER && bytes <= MOST_DIGITS && value >= least && value <= most;
        }

        private boolean readWord(int mostLetters) {
            readToken();
            return token == WORD && bytes <= mostLetters;
        }

        private boolean readWordOrNothing() {
            readToken();
            if (token == SIGN && value == NOTHING) {
                value = 0;
                return true;
            }
            return token == WORD && bytes <= MOST_LETTERS_OF_WORD;
        }

        private boolean says(String word) {
            if (bytes != word.length()) {
                return false;
            }
            for (int i = 0; i < bytes; i++) {
                if (text[begin + i] != word.charAt(i)) {
                    return false;
                }
            }
            return true;
        }

        /** A row too long for any code or number is refused by its bytes, so that its value may be anything. */
        private void readToken() {
            while (place < length && text[place] == BLANK) {
                place++;
            }
            begin = place;
            value = 0;
            token = kindAt(place);
            boolean more = place < length;
            while (more && place < length) {
                value = valueWith(text[place]);
                place++;
                more = token != SIGN && kindAt(place) == token;
            }
            bytes = place - begin;
        }

        private long valueWith(int sign) {
            if (token == WORD) {
                return value * BASE + sign - 'a' + 1;
            }
            return token == NUMBER ? value * 10 + sign - '0' : sign;
        }

        private int kindAt(int at) {
            if (at >= length) {
                return END;
            }
            if (text[at] >= 'a' && text[at] <= 'z') {
                return WORD;
            }
            return text[at] >= '0' && text[at] <= '9' ? NUMBER : SIGN;
        }
    }

    /** Unlike names in the order of their codes, found anew for each call in the same rows. */
    private static final class NameRow {
        private static final int[] GAPS = {701, 301, 132, 57, 23, 10, 4, 1};

        final long[] codes = new long[MOST_NAMES];
        int size = 0;
        // the syllables that may stand in names: code, sum, and by what a code ahead is moved
        private final long[] partCodes = new long[MOST_SYLLABLES];
        private final long[] partShifts = new long[MOST_SYLLABLES];
        private final int[] partSums = new int[MOST_SYLLABLES];
        private int partCount = 0;
        private int wantedDay = 0;
        private boolean divisorsWanted = false;

        /** The names whose sum is a day, or, with divisors, divides it. */
        void gather(World world, int day, boolean divisors) {
            wantedDay = day;
            divisorsWanted = divisors;
            size = 0;
            findParts(world);
            join(0, 0, MOST_PARTS);
            sort();
            dropLike();
        }

        private void findParts(World world) {
            partCount = 0;
            for (int i = 0; i < world.syllableCount; i++) {
                long code = world.syllables[i];
                int sum = world.sumInNames(code);
                if (sum > 0) {
                    partCodes[partCount] = code;
                    partShifts[partCount] = shiftOf(code);
                    partSums[partCount] = sum;
                    partCount++;
                }
            }
        }

        private static long shiftOf(long code) {
            long shift = BASE;
            for (int letters = 1; letters < MOST_LETTERS_OF_SYLLABLE && shift <= code; letters++) {
                shift *= BASE;
            }
            return shift;
        }

        /** Each part has a sum above 0, so that what has reached the day needs no more parts. */
        private void join(long ahead, int sumAhead, int parts) {
            if (parts == 0) {
                return;
            }
            for (int i = 0; i < partCount; i++) {
                int sum = sumAhead + partSums[i];
                if (sum <= wantedDay) {
                    long code = ahead * partShifts[i] + partCodes[i];
                    addIfWanted(code, sum);
                    join(code, sum, parts - 1);
                }
            }
        }

        private void addIfWanted(long code, int sum) {
            boolean wanted = sum == wantedDay || divisorsWanted && sum > 0 && wantedDay % sum == 0;
            if (wanted && size < MOST_NAMES) {
                codes[size] = code;
                size++;
            }
        }

        private void sort() {
            for (int gap : GAPS) {
                for (int i = gap; i < size; i++) {
                    long code = codes[i];
                    int to = i;
                    while (to >= gap && codes[to - gap] > code) {
                        codes[to] = codes[to - gap];
                        to -= gap;
                    }
                    codes[to] = code;
                }
            }
        }

        private void dropLike() {
            int kept = 0;
            for (int i = 0; i < size; i++) {
                if (kept == 0 || codes[kept - 1] != codes[i]) {
                    codes[kept] = codes[i];
                    kept++;
                }
            }
            size = kept;
        }

        /** Leaves those by which nobody of some persons, by bits, is called. */
        void dropCalled(World world, int people) {
            int kept = 0;
            for (int i = 0; i < size; i++) {
                if (world.leastCalled(codes[i], people) == NONE) {
                    codes[kept] = codes[i];
                    kept++;
                }
            }
            size = kept;
        }

        /** Leaves those that are a word with at least one letter left out. */
        void dropNoNicknames(long word) {
            int kept = 0;
            for (int i = 0; i < size; i++) {
                if (codes[i] != word && isLeftOf(codes[i], word)) {
                    codes[kept] = codes[i];
                    kept++;
                }
            }
            size = kept;
        }
    }

    /** Which days have a name: that hangs on the sums of syllables alone, so no name is made for it. */
    private static final class Reach {
        // for each day the fewest syllables by whose sums it is made
        private final int[] fewest = new int[LAST_DAY + 1];
        private final boolean[] tried = new boolean[MOST_MENDING_SUM + 1];

        void measure(World world) {
            for (int day = 1; day <= LAST_DAY; day++) {
                fewest[day] = MOST_PARTS + 1;
            }
            for (int i = 0; i < world.syllableCount; i++) {
                int sum = world.sumInNames(world.syllables[i]);
                if (sum > 0) {
                    addPart(sum);
                }
            }
        }

        private void addPart(int sum) {
            for (int day = sum; day <= LAST_DAY; day++) {
                fewest[day] = Math.min(fewest[day], fewest[day - sum] + 1);
            }
        }

        int daysWithout(int from, int to) {
            int found = 0;
            for (int day = from; day <= to; day++) {
                if (fewest[day] > MOST_PARTS) {
                    found++;
                }
            }
            return found;
        }

        int firstWithout(int from, int to) {
            for (int day = from; day <= to; day++) {
                if (fewest[day] > MOST_PARTS) {
                    return day;
                }
            }
            return NONE;
        }

        /** The codes of one and two letters rise in the order asked for; one that there is mends nothing, as its sum is in use. */
        long mendingSyllable(World world, int from, int to) {
            for (int sum = 0; sum <= MOST_MENDING_SUM; sum++) {
                tried[sum] = false;
            }
            for (long code = 1; code <= MOST_MENDING_CODE; code++) {
                int sum = world.sumInNames(code);
                if (sum > 0 && sum <= MOST_MENDING_SUM && !tried[sum]) {
                    tried[sum] = true;
                    if (mendsAll(sum, from, to)) {
                        return code;
                    }
                }
            }
            return NONE;
        }

        private boolean mendsAll(int sum, int from, int to) {
            for (int day = from; day <= to; day++) {
                if (!hasNameWith(sum, day)) {
                    return false;
                }
            }
            return true;
        }

        private boolean hasNameWith(int sum, int day) {
            int rest = day;
            for (int times = 0; times <= MOST_PARTS && rest >= 0; times++) {
                if (fewest[rest] <= MOST_PARTS - times) {
                    return true;
                }
                rest -= sum;
            }
            return false;
        }
    }

    /** Numbers for the letters of all words by which each sum is the day. */
    private static final class OldNames {
        int ways = 0;
        private final int[] letters = new int[MOST_OLD_LETTERS];
        private int letterCount = 0;
        // for each word: how often each letter stands in it, how many places are behind that letter's, what is left of the day
        private final int[][] times = new int[MOST_PERSONS][MOST_OLD_LETTERS];
        private final int[][] behind = new int[MOST_PERSONS][MOST_OLD_LETTERS];
        private final int[] left = new int[MOST_PERSONS];
        private int wordCount = 0;
        private final int[] given = new int[MOST_OLD_LETTERS];
        private final int[] first = new int[MOST_OLD_LETTERS];
        private int most = 0;

        /** False if there are too many letters. */
        boolean solve(World world, int mostNumber) {
            ways = 0;
            most = mostNumber;
            if (!findLetters(world)) {
                return false;
            }
            wordCount = 0;
            for (int p = 0; p < world.personCount; p++) {
                if (world.words[p] != 0) {
                    addWord(world.words[p], world.days[p]);
                }
            }
            give(0);
            return true;
        }

        private boolean findLetters(World world) {
            letterCount = 0;
            for (int letter = 0; letter < LETTERS; letter++) {
                if (isInAny(world, letter)) {
                    if (letterCount >= MOST_OLD_LETTERS) {
                        return false;
                    }
                    letters[letterCount] = letter;
                    letterCount++;
                }
            }
            return true;
        }

        private static boolean isInAny(World world, int letter) {
            for (int p = 0; p < world.personCount; p++) {
                if (timesIn(world.words[p], letter) > 0) {
                    return true;
                }
            }
            return false;
        }

        private void addWord(long word, int day) {
            int places = 0;
            for (int at = letterCount - 1; at >= 0; at--) {
                behind[wordCount][at] = places;
                times[wordCount][at] = timesIn(word, letters[at]);
                places += times[wordCount][at];
            }
            left[wordCount] = day;
            wordCount++;
        }

        /** Gives numbers to the letters from one on; only such as leave each word what its places behind can hold. */
        private void give(int at) {
            if (at >= letterCount) {
                addWay();
                return;
            }
            int last = greatestFor(at);
            for (int number = leastFor(at); number <= last; number++) {
                given[at] = number;
                take(at, number);
                give(at + 1);
                take(at, -number);
            }
        }

        private void addWay() {
            if (ways == 0) {
                System.arraycopy(given, 0, first, 0, letterCount);
            }
            ways++;
        }

        private int leastFor(int at) {
            int least = 1;
            for (int w = 0; w < wordCount; w++) {
                if (times[w][at] > 0) {
                    int lack = left[w] - behind[w][at] * most;
                    least = Math.max(least, -Math.floorDiv(-lack, times[w][at]));
                }
            }
            return least;
        }

        private int greatestFor(int at) {
            int greatest = most;
            for (int w = 0; w < wordCount; w++) {
                if (times[w][at] > 0) {
                    greatest = Math.min(greatest, Math.floorDiv(left[w] - behind[w][at], times[w][at]));
                }
            }
            return greatest;
        }

        private void take(int at, int number) {
            for (int w = 0; w < wordCount; w++) {
                left[w] -= times[w][at] * number;
            }
        }

        /** In the first way: NONE if there is no way, 0 if the letter is in no word. */
        int firstNumberOf(int letter) {
            if (ways == 0) {
                return NONE;
            }
            for (int at = 0; at < letterCount; at++) {
                if (letters[at] == letter) {
                    return first[at];
                }
            }
            return 0;
        }
    }

    /** A row of items of one lane; its size is NONE while it is missing. */
    private static final class Sheet {
        final int[] items = new int[MOST_ITEMS];
        int lane = BYTES;
        int size = NONE;

        boolean isMissing() {
            return size == NONE;
        }

        void begin(int ofLane, int n) {
            lane = ofLane;
            size = n;
            for (int i = 0; i < MOST_ITEMS; i++) {
                items[i] = 0;
            }
        }

        /** Whether n places from i on are there; i may stand behind the last one if n is 0. */
        boolean hasPlaces(int i, int n) {
            return i >= 0 && n >= 0 && i <= size && n <= size - i;
        }

        void put(int i, int v) {
            if (lane == BYTES) {
                items[i] = (byte) v;
            } else if (lane == SHORTS) {
                items[i] = (short) v;
            } else {
                items[i] = v;
            }
        }

        boolean hasOnlyDays(int i, int n) {
            for (int k = 0; k < n; k++) {
                if (!isDay(items[i + k])) {
                    return false;
                }
            }
            return true;
        }
    }
}
