/** What tests share: telling texts, comparing answers with those that are due, reading items, the end of a test. */
abstract class Answers {
    // written out once more, so that the class's own constants are seen as well
    static final int NONE = -1, UNKNOWN = -2, OUTSIDE = -3, NOT = -4, FULL = -5, NULL = -11, CAST = -12, INDEX = -13, SIZE = -14;
    static final int HUGE = Integer.MAX_VALUE, LOW = Integer.MIN_VALUE;
    static String where = "";
    static int checked = 0;
    static int wrong = 0;

    static void due(String call, long got, long want) {
        checked++;
        if (got != want) {
            isWrong(call + " answered " + got + ", due is " + want);
        }
    }

    static void isWrong(String what) {
        wrong++;
        System.out.println(where + ": " + what);
    }

    static void finish() {
        System.out.println(checked + " answers, " + wrong + " not as due");
        if (wrong != 0) {
            System.exit(1);
        }
    }

    static void put(SumNames x, String text) {
        for (int from = 0; from < text.length(); from += 8) {
            int n = Math.min(8, text.length() - from);
            long bytes = 0;
            for (int i = 0; i < n; i++) {
                bytes |= (long) text.charAt(from + i) << 8 * i;
            }
            x.write(bytes, n);
        }
    }

    /** A new object to which texts are told, each of which must be without a fault. */
    static SumNames with(String... texts) {
        SumNames x = new SumNames();
        tell(x, texts);
        return x;
    }

    static void tell(SumNames x, String... texts) {
        for (String text : texts) {
            put(x, text);
            due("told() of '" + text + "'", x.told(), text.split(";").length);
        }
    }

    static void faultAt(SumNames x, String text, int place) {
        x.erase();
        put(x, text);
        due("fault() of '" + text + "'", x.fault(), place);
        due("fault() once more of '" + text + "'", x.fault(), place);
        x.erase();
    }

    static long code(String word) {
        long code = 0;
        for (char c : word.toCharArray()) {
            code = 27 * code + c - 'a' + 1;
        }
        return code;
    }

    /** The chance of two parents, its two parts. */
    static void chance(SumNames x, int one, int other, long above, long below) {
        due("hopes(" + one + ", " + other + ", 0)", x.hopes(one, other, 0), above);
        due("hopes(" + one + ", " + other + ", 1)", x.hopes(one, other, 1), below);
    }

    /**
     * Reads items that are threefold numbers, none of which is another one's double or threefold: a child sure to come that
     * day has a name by that number alone. All else is forgotten by it, but the letters and degrees.
     */
    static void items(SumNames x, int sheet, int lane, int... due) {
        for (int i = 0; i < due.length; i++) {
            tell(x, "forget;first 1 -;first 1 -;syl aaa;letter a " + due[i] / 3);
            due("hope() of item " + i + " of sheet " + sheet, x.hope(sheet, lane, i, 1, 10), 1);
            due("hopes(0, 1, 0), item " + i + " of sheet " + sheet + " being " + due[i], x.hopes(0, 1, 0), 1);
        }
        tell(x, "forget;letter a 1");
    }
}
