/** The document's sentences on sheets, refusals and images; promises 25 to 32. */
final class SheetSentences extends Sentences {
    private static final int[] NO_SHEETS = {-1, 3, 4, HUGE, LOW};

    private SheetSentences() {
    }

    static void all() {
        section("Terms");
        sheets();
        refusals();
        sheet();
        tear();
        lay();
        copy();
        hope();
        hopeRefused();
        keep();
        back();
        count();
    }

    /** Sheets of a lane: 0 with 63, 66, 69, 72, 75, and 1 with 20 items, 66, 69 .. 123. */
    private static SumNames laid(int lane) {
        SumNames x = new SumNames();
        x.sheet(0, lane, 5);
        x.sheet(1, lane, 20);
        for (int i = 0; i < 20; i++) {
            x.lay(0, i, 63 + 3 * i);
            x.lay(1, i, 66 + 3 * i);
        }
        return x;
    }

    private static void sheets() {
        sentence("SHEETS 0 .. 2 are missing (at first),", () -> {
            SumNames x = new SumNames();
            for (int sheet = 0; sheet < 3; sheet++) {
                due("count(" + (5 + sheet) + ")", x.count(5 + sheet), NONE);
                due("lay(" + sheet + ", 0, 1)", x.lay(sheet, 0, 1), NULL);
                due("sheet(" + sheet + ", 0, 1)", x.sheet(sheet, 0, 1), 1);
                due("lay(" + sheet + ", 0, 1)", x.lay(sheet, 0, 1), 1);
            }
            due("sheet(3, 0, 1)", x.sheet(3, 0, 1), UNKNOWN);
            due("sheet(-1, 0, 1)", x.sheet(-1, 0, 1), UNKNOWN);
        });
        sentence("or have a LANE (0 bytes, 1 shorts, 2 ints) and 0 .. 20 ITEMS.", () -> {
            for (int lane = 0; lane < 3; lane++) {
                SumNames x = new SumNames();
                due("sheet(0, " + lane + ", 0)", x.sheet(0, lane, 0), 1);
                due("count(5)", x.count(5), 0);
                due("lay(0, 0, 1)", x.lay(0, 0, 1), INDEX);
                due("sheet(0, " + lane + ", 20)", x.sheet(0, lane, 20), 1);
                due("count(5)", x.count(5), 20);
                due("lay(0, 19, 9)", x.lay(0, 19, 9), 1);
                due("lay(0, 20, 9)", x.lay(0, 20, 9), INDEX);
                due("hope(0, " + lane + ", 19, 1, 1)", x.hope(0, lane, 19, 1, 1), 1);
                due("sheet(0, " + lane + ", 21)", x.sheet(0, lane, 21), OUTSIDE);
            }
            due("sheet(0, 3, 0)", new SumNames().sheet(0, 3, 0), OUTSIDE);
        });
        sentence("What the machine finds are answers: NULL -11 (a SHEET is missing),", () -> {
            due("NULL", SumNames.NULL, -11);
            refused("lay(2, 0, 0)", x -> x.lay(2, 0, 0), NULL);
            refused("copy(2, 0, 2, 0, 0)", x -> x.copy(2, 0, 2, 0, 0), NULL);
            refused("hope(2, 0, 0, 1, 0)", x -> x.hope(2, 0, 0, 1, 0), NULL);
        });
        sentence("CAST -12 (it has another LANE),", () -> {
            due("CAST", SumNames.CAST, -12);
            refused("copy(0, 0, 1, 0, 0)", x -> x.copy(0, 0, 1, 0, 0), CAST);
            refused("copy(1, 0, 0, 0, 1)", x -> x.copy(1, 0, 0, 0, 1), CAST);
            refused("hope(0, 1, 0, 1, 0)", x -> x.hope(0, 1, 0, 1, 0), CAST);
            refused("hope(1, 0, 0, 1, 0)", x -> x.hope(1, 0, 0, 1, 0), CAST);
        });
        sentence("INDEX -13 (there is no such place),", () -> {
            due("INDEX", SumNames.INDEX, -13);
            refused("lay(0, 3, 0)", x -> x.lay(0, 3, 0), INDEX);
            refused("lay(1, -1, 0)", x -> x.lay(1, -1, 0), INDEX);
            refused("copy(0, 0, 0, 1, 3)", x -> x.copy(0, 0, 0, 1, 3), INDEX);
            refused("hope(1, 2, 5, 1, 0)", x -> x.hope(1, 2, 5, 1, 0), INDEX);
        });
        sentence("SIZE -14 (fewer than none);", () -> {
            due("SIZE", SumNames.SIZE, -14);
            refused("sheet(0, 0, -1)", x -> x.sheet(0, 0, -1), SIZE);
            refused("sheet(2, 2, LOW)", x -> x.sheet(2, 2, LOW), SIZE);
            due("sheet(0, 0, 0), none", new SumNames().sheet(0, 0, 0), 1);
        });
        sentence("of several the first of these.", () -> {
            refused("lay(2, 99, 0), missing, no place", x -> x.lay(2, 99, 0), NULL);
            refused("copy(0, 99, 2, 0, 1), missing, no place", x -> x.copy(0, 99, 2, 0, 1), NULL);
            refused("copy(2, 0, 1, 0, -1), missing, no place", x -> x.copy(2, 0, 1, 0, -1), NULL);
            refused("copy(0, 99, 1, 0, 1), another lane, no place", x -> x.copy(0, 99, 1, 0, 1), CAST);
            refused("copy(0, 0, 1, 0, -1), another lane, fewer than none", x -> x.copy(0, 0, 1, 0, -1), CAST);
            refused("hope(2, 1, 99, 1, 1), missing, no place", x -> x.hope(2, 1, 99, 1, 1), NULL);
            refused("hope(0, 1, 99, 1, 1), another lane, no place", x -> x.hope(0, 1, 99, 1, 1), CAST);
        });
    }

    private static void refusals() {
        sentence("Refused, and nothing changes:", () -> {
            refused("told()", SumNames::told, NOT);
            refused("write(0, 9)", x -> x.write(0, 9), OUTSIDE);
            refused("sheet(0, 0, 21)", x -> x.sheet(0, 0, 21), OUTSIDE);
            refused("tear(3)", x -> x.tear(3), UNKNOWN);
            refused("lay(0, 5, 1)", x -> x.lay(0, 5, 1), INDEX);
            refused("copy(1, 0, 1, 3, 3), the last has no place", x -> x.copy(1, 0, 1, 3, 3), INDEX);
            refused("hope(0, 0, 0, 4, 5)", x -> x.hope(0, 0, 0, 4, 5), INDEX);
            refused("keep(2)", x -> x.keep(2), UNKNOWN);
            refused("back(1)", x -> x.back(1), NOT);
        });
        sentence("UNKNOWN (no such PERSON, SHEET, IMAGE, LETTER),", () -> {
            due("UNKNOWN", SumNames.UNKNOWN, -2);
            refused("person(6, 0)", x -> x.person(6, 0), UNKNOWN);
            refused("sheet(3, 0, 0)", x -> x.sheet(3, 0, 0), UNKNOWN);
            refused("back(2)", x -> x.back(2), UNKNOWN);
            refused("letter(26)", x -> x.letter(26), UNKNOWN);
            refused("old(9, 26)", x -> x.old(9, 26), UNKNOWN);
        });
        sentence("OUTSIDE (another number is not as told),", () -> {
            due("OUTSIDE", SumNames.OUTSIDE, -3);
            refused("names(0, 0)", x -> x.names(0, 0), OUTSIDE);
            refused("as(0, 4)", x -> x.as(0, 4), OUTSIDE);
            refused("count(8)", x -> x.count(8), OUTSIDE);
        });
        sentence("NOT (not now: as told),", () -> {
            due("NOT", SumNames.NOT, -4);
            refused("reform(3, 0)", x -> x.reform(3, 0), NOT);
            refused("page(8, 0, 0)", x -> x.page(8, 0, 0), NOT);
        });
        sentence("FULL: the first of these that fits;", () -> {
            due("FULL", SumNames.FULL, -5);
            due("NONE", SumNames.NONE, -1);
            refused("person(6, 5)", x -> x.person(6, 5), UNKNOWN);
            refused("old(0, 26)", x -> x.old(0, 26), UNKNOWN);
            refused("reform(3, 3)", x -> x.reform(3, 3), OUTSIDE);
            refused("nicknames(6, 2)", x -> x.nicknames(6, 2), UNKNOWN);
            refused("page(8, -1, 0)", x -> x.page(8, -1, 0), OUTSIDE);
            refused("mend(2, 1), 10 syllables", Sentences::full, x -> x.mend(2, 1), OUTSIDE);
            SumNames x = new SumNames();
            put(x, " ".repeat(196));
            due("write(0, 9) with room for four", x.write(0, 9), OUTSIDE);
            due("write(0, 5) with room for four", x.write(0, 5), FULL);
        });
        sentence("what the machine finds behind that.", () -> {
            refused("sheet(3, 3, -1)", x -> x.sheet(3, 3, -1), UNKNOWN);
            refused("sheet(0, 3, -1)", x -> x.sheet(0, 3, -1), OUTSIDE);
            refused("lay(3, -1, 0)", x -> x.lay(3, -1, 0), UNKNOWN);
            refused("copy(2, 0, 3, 0, -1)", x -> x.copy(2, 0, 3, 0, -1), UNKNOWN);
            refused("copy(3, 0, 2, 0, -1)", x -> x.copy(3, 0, 2, 0, -1), UNKNOWN);
            refused("hope(3, 0, 0, 1, 1)", x -> x.hope(3, 0, 0, 1, 1), UNKNOWN);
            refused("hope(2, 3, 0, 1, 1)", x -> x.hope(2, 3, 0, 1, 1), OUTSIDE);
            refused("hope(0, 1, 0, 7, 1)", x -> x.hope(0, 1, 0, 7, 1), OUTSIDE);
            refused("hope(1, 2, 99, 1, 11)", x -> x.hope(1, 2, 99, 1, 11), OUTSIDE);
        });
        sentence("Parts are told in lowest terms: above (part 0), below (1).", () -> {
            SumNames x = with("first 1 -;first 1 -;hope 1 5");
            chance(x, 0, 1, 1, 2);
            tell(x, "hope 1 4");
            chance(x, 0, 1, 3, 10);
            tell(x, "hope 1 0");
            chance(x, 0, 1, 3, 10);
            tell(x, "hope 1 10");
            chance(x, 0, 1, 0, 1);
            chance(with("first 1 -;first 1 -"), 0, 1, 1, 1);
            chance(with("first 1 -;first 1 -;" + times(6, "hope 1 7")), 0, 1, 729, 1000000);
            chance(with("first 1 -;first 1 -;" + times(6, "hope 1 8")), 0, 1, 1, 15625);
        });
    }

    private static void sheet() {
        section("Promise 25");
        sentence("A SHEET has a LANE and n ITEMS, 0 each, from now on: 1.", () -> {
            SumNames x = laid(2);
            due("sheet(1, 1, 20), over what was", x.sheet(1, 1, 20), 1);
            due("count(6)", x.count(6), 20);
            due("hope(1, 2, 0, 1, 1), no longer ints", x.hope(1, 2, 0, 1, 1), CAST);
            for (int i = 0; i < 20; i++) {
                due("hope(1, 1, " + i + ", 1, 1), 0 each", x.hope(1, 1, i, 1, 1), NOT);
            }
            due("sheet(1, 1, 2), fewer", x.sheet(1, 1, 2), 1);
            due("lay(1, 2, 5)", x.lay(1, 2, 5), INDEX);
            due("sheet(1, 1, 0), none", x.sheet(1, 1, 0), 1);
            due("count(6)", x.count(6), 0);
            due("sheet(1, 1, 3), more", x.sheet(1, 1, 3), 1);
            due("lay(1, 2, 300)", x.lay(1, 2, 300), 1);
            due("hope(1, 1, 2, 1, 1)", x.hope(1, 1, 2, 1, 1), 1);
            items(x, 0, 2, 63, 66, 69, 72, 75);
        });
        sentence("UNKNOWN;", () -> {
            for (int sheet : NO_SHEETS) {
                refused("sheet(" + sheet + ", 0, 1)", x -> x.sheet(sheet, 0, 1), UNKNOWN);
                refused("sheet(" + sheet + ", 3, 1), both", x -> x.sheet(sheet, 3, 1), UNKNOWN);
                refused("sheet(" + sheet + ", 0, -1), both", x -> x.sheet(sheet, 0, -1), UNKNOWN);
            }
        });
        sentence("OUTSIDE: lane, n above 20;", () -> {
            for (int lane : new int[] {-1, 3, HUGE, LOW}) {
                refused("sheet(0, " + lane + ", 1)", x -> x.sheet(0, lane, 1), OUTSIDE);
                refused("sheet(0, " + lane + ", -1), both", x -> x.sheet(0, lane, -1), OUTSIDE);
            }
            for (int n : new int[] {21, 22, HUGE}) {
                refused("sheet(0, 0, " + n + ")", x -> x.sheet(0, 0, n), OUTSIDE);
                refused("sheet(2, 0, " + n + ")", x -> x.sheet(2, 0, n), OUTSIDE);
            }
        });
        sentence("SIZE.", () -> {
            for (int n : new int[] {-1, -2, -21, LOW}) {
                refused("sheet(0, 0, " + n + ")", x -> x.sheet(0, 0, n), SIZE);
                refused("sheet(2, 0, " + n + ")", x -> x.sheet(2, 0, n), SIZE);
            }
        });
    }

    private static void tear() {
        section("Promise 26");
        sentence("A SHEET is missing: 1.", () -> {
            SumNames x = laid(0);
            due("tear(2), missing already", x.tear(2), 1);
            due("tear(1)", x.tear(1), 1);
            due("count(6)", x.count(6), NONE);
            due("lay(1, 0, 1)", x.lay(1, 0, 1), NULL);
            due("tear(1) again", x.tear(1), 1);
            due("count(5), not this one", x.count(5), 5);
            due("sheet(1, 0, 2)", x.sheet(1, 0, 2), 1);
            due("hope(1, 0, 0, 1, 1), nothing is left of it", x.hope(1, 0, 0, 1, 1), NOT);
            items(x, 0, 0, 63, 66, 69, 72, 75);
        });
        sentence("UNKNOWN.", () -> {
            for (int sheet : NO_SHEETS) {
                refused("tear(" + sheet + ")", x -> x.tear(sheet), UNKNOWN);
            }
        });
    }

    private static void lay() {
        section("Promise 27");
        sentence("ITEM i becomes v, as many of its lowest bits as the LANE has (with its sign): 1.", () -> {
            for (int lane = 0; lane < 3; lane++) {
                SumNames x = laid(lane);
                due("lay(0, 4, 102)", x.lay(0, 4, 102), 1);
                due("lay(0, 0, 105)", x.lay(0, 0, 105), 1);
                items(x, 0, lane, 105, 66, 69, 72, 102);
            }
            int[][] rows = {{0, 127, 127}, {0, 128, -128}, {0, 255, -1}, {0, 256, 0}, {0, 383, 127}, {0, -255, 1}, {0, -129, 127}, {0, HUGE, -1},
                {0, LOW, 0}, {0, LOW + 3, 3}, {1, 400, 400}, {1, 401, 401}, {1, 32767, 32767}, {1, 32768, -32768}, {1, 65535, -1}, {1, 65536, 0},
                {1, 65537, 1}, {1, 65936, 400}, {1, 65937, 401}, {1, -65535, 1}, {1, LOW + 400, 400}, {2, 400, 400}, {2, 401, 401}, {2, 65537, 65537},
                {2, HUGE, HUGE}, {2, LOW, LOW}, {2, LOW + 400, LOW + 400}, {2, -1, -1}, {2, 0, 0}};
            for (int[] row : rows) {
                SumNames x = new SumNames();
                x.sheet(2, row[0], 1);
                due("lay(2, 0, " + row[1] + ")", x.lay(2, 0, row[1]), 1);
                boolean isDay = row[2] >= 1 && row[2] <= 400;
                due("hope() of " + row[1] + " in lane " + row[0], x.hope(2, row[0], 0, 1, 10), isDay ? 1 : NOT);
            }
            for (int v : new int[] {3, 256 + 3, 3 - 256, 65536 + 3, LOW + 3}) {
                SumNames x = with("first 1 -;first 1 -;syl c");
                x.sheet(0, 0, 1);
                x.lay(0, 0, v);
                due("hope() of " + v, x.hope(0, 0, 0, 1, 10), 1);
                chance(x, 0, 1, 1, 1);
            }
        });
        sentence("UNKNOWN;", () -> {
            for (int sheet : NO_SHEETS) {
                refused("lay(" + sheet + ", 0, 1)", x -> x.lay(sheet, 0, 1), UNKNOWN);
                refused("lay(" + sheet + ", -1, 1), both", x -> x.lay(sheet, -1, 1), UNKNOWN);
            }
        });
        sentence("NULL;", () -> {
            refused("lay(2, 0, 1)", x -> x.lay(2, 0, 1), NULL);
            refused("lay(2, -1, 1), both", x -> x.lay(2, -1, 1), NULL);
            refused("lay(2, 20, 1), both", x -> x.lay(2, 20, 1), NULL);
        });
        sentence("INDEX.", () -> {
            for (int i : new int[] {-1, 3, 4, 20, HUGE, LOW}) {
                refused("lay(0, " + i + ", 1)", x -> x.lay(0, i, 1), INDEX);
            }
            SumNames none = new SumNames();
            none.sheet(0, 0, 0);
            due("lay(0, 0, 1) of none", none.lay(0, 0, 1), INDEX);
            due("lay(1, 19, 1) of 20", laid(0).lay(1, 19, 1), 1);
            due("lay(1, 20, 1) of 20", laid(0).lay(1, 20, 1), INDEX);
        });
    }

    private static void copy() {
        section("Promise 28");
        sentence("n ITEMS of a SHEET from i on go to another one, or itself, from j on, as if all at once: 1.", () -> {
            for (int lane = 0; lane < 3; lane++) {
                SumNames x = laid(lane);
                due("copy(1, 15, 0, 0, 5), the last to the first", x.copy(1, 15, 0, 0, 5), 1);
                items(x, 0, lane, 111, 114, 117, 120, 123);
                due("copy(0, 0, 0, 1, 4), upwards over itself", x.copy(0, 0, 0, 1, 4), 1);
                items(x, 0, lane, 111, 111, 114, 117, 120);
                due("copy(0, 2, 0, 0, 3), downwards over itself", x.copy(0, 2, 0, 0, 3), 1);
                items(x, 0, lane, 114, 117, 120, 117, 120);
                due("copy(0, 0, 0, 0, 5), to where they are", x.copy(0, 0, 0, 0, 5), 1);
                items(x, 0, lane, 114, 117, 120, 117, 120);
            }
            SumNames x = laid(2);
            due("copy(0, 0, 1, 15, 5), to the last", x.copy(0, 0, 1, 15, 5), 1);
            due("copy(1, 14, 0, 0, 5)", x.copy(1, 14, 0, 0, 5), 1);
            items(x, 0, 2, 108, 63, 66, 69, 72);
            due("copy(1, 0, 1, 0, 20), all", x.copy(1, 0, 1, 0, 20), 1);
        });
        sentence("UNKNOWN;", () -> {
            for (int sheet : NO_SHEETS) {
                refused("copy(" + sheet + ", 0, 0, 0, 1)", x -> x.copy(sheet, 0, 0, 0, 1), UNKNOWN);
                refused("copy(0, 0, " + sheet + ", 0, 1)", x -> x.copy(0, 0, sheet, 0, 1), UNKNOWN);
                refused("copy(2, 0, " + sheet + ", 0, -1), all", x -> x.copy(2, 0, sheet, 0, -1), UNKNOWN);
            }
        });
        sentence("NULL;", () -> {
            refused("copy(2, 0, 0, 0, 1)", x -> x.copy(2, 0, 0, 0, 1), NULL);
            refused("copy(0, 0, 2, 0, 1)", x -> x.copy(0, 0, 2, 0, 1), NULL);
            refused("copy(2, 0, 2, 0, 0)", x -> x.copy(2, 0, 2, 0, 0), NULL);
            refused("copy(1, 9, 2, 0, 1), both", x -> x.copy(1, 9, 2, 0, 1), NULL);
        });
        sentence("CAST;", () -> {
            refused("copy(0, 0, 1, 0, 1)", x -> x.copy(0, 0, 1, 0, 1), CAST);
            refused("copy(1, 0, 0, 0, 0), of none", x -> x.copy(1, 0, 0, 0, 0), CAST);
            refused("copy(1, 9, 0, 0, 1), both", x -> x.copy(1, 9, 0, 0, 1), CAST);
        });
        sentence("INDEX (n below 0, too;", () -> {
            int[][] outside = {{0, 0, 6}, {5, 0, 1}, {0, 5, 1}, {3, 0, 3}, {0, 3, 3}, {-1, 0, 1}, {0, -1, 1}, {0, 0, -1}, {2, 2, -1}, {0, 0, LOW},
                {5, 5, -5}, {6, 0, -1}, {HUGE, 0, 1}, {0, HUGE, 1}, {1, 0, HUGE}, {0, 1, HUGE}, {HUGE, HUGE, HUGE}, {LOW, 0, 1}, {0, LOW, 1}, {LOW, LOW, LOW}};
            for (int[] row : outside) {
                refused("copy(1, " + row[0] + ", 1, " + row[1] + ", " + row[2] + ")", x -> x.copy(1, row[0], 1, row[1], row[2]), INDEX);
            }
            SumNames x = laid(1);
            due("copy(0, 0, 1, 0, 6), too many of this one", x.copy(0, 0, 1, 0, 6), INDEX);
            due("copy(1, 0, 0, 0, 6), too many for the other", x.copy(1, 0, 0, 0, 6), INDEX);
            due("copy(1, 0, 0, 0, 5)", x.copy(1, 0, 0, 0, 5), 1);
        });
        sentence("with n 0, too, if i or j is above how many there are).", () -> {
            int[][] outside = {{6, 0}, {0, 6}, {6, 6}, {-1, 0}, {0, -1}, {HUGE, 0}, {0, HUGE}, {LOW, 0}, {0, LOW}};
            for (int[] row : outside) {
                refused("copy(1, " + row[0] + ", 1, " + row[1] + ", 0)", x -> x.copy(1, row[0], 1, row[1], 0), INDEX);
            }
            SumNames x = laid(0);
            due("copy(0, 5, 1, 20, 0), at the ends", x.copy(0, 5, 1, 20, 0), 1);
            due("copy(0, 6, 1, 20, 0)", x.copy(0, 6, 1, 20, 0), INDEX);
            due("copy(0, 5, 1, 21, 0)", x.copy(0, 5, 1, 21, 0), INDEX);
            due("copy(0, 0, 1, 0, 0)", x.copy(0, 0, 1, 0, 0), 1);
            items(x, 0, 0, 63, 66, 69, 72, 75);
        });
    }

    private static void hope() {
        section("Promise 29");
        sentence("n ITEMS (1 .. 6) of a SHEET taken as a LANE, from i on, are DAYS of HOPES by c tenths (0 .. 10) more: how many HOPES there are.", () -> {
            for (int lane = 0; lane < 3; lane++) {
                SumNames x = laid(lane);
                due("hope(1, " + lane + ", 19, 1, 0)", x.hope(1, lane, 19, 1, 0), 1);
                due("hope(1, " + lane + ", 18, 2, 10)", x.hope(1, lane, 18, 2, 10), 3);
                tell(x, "hope 1 1");
                due("hope(0, " + lane + ", 3, 2, 5)", x.hope(0, lane, 3, 2, 5), 6);
                tell(x, "forget");
                due("hope(1, " + lane + ", 14, 6, 5), six at once", x.hope(1, lane, 14, 6, 5), 6);
            }
            SumNames x = with("first 1 -;first 1 -;syl c");
            x.sheet(0, 2, 3);
            x.lay(0, 0, 1);
            x.lay(0, 1, 400);
            x.lay(0, 2, 3);
            due("hope(0, 2, 0, 3, 3), the first and last day", x.hope(0, 2, 0, 3, 3), 3);
            chance(x, 0, 1, 49, 100);
            due("hope(0, 2, 1, 1, 0)", x.hope(0, 2, 1, 1, 0), 4);
            chance(x, 0, 1, 49, 100);
            due("hope(0, 2, 2, 1, 10), one more of the day of c", x.hope(0, 2, 2, 1, 10), 5);
            chance(x, 0, 1, 343, 1000);
        });
        sentence("UNKNOWN;", () -> {
            for (int sheet : NO_SHEETS) {
                refused("hope(" + sheet + ", 0, 0, 1, 1)", x -> x.hope(sheet, 0, 0, 1, 1), UNKNOWN);
                refused("hope(" + sheet + ", 3, 9, 0, 11), all", x -> x.hope(sheet, 3, 9, 0, 11), UNKNOWN);
            }
        });
        sentence("OUTSIDE: lane, n, c;", () -> {
            for (int lane : new int[] {-1, 3, HUGE, LOW}) {
                refused("hope(0, " + lane + ", 0, 1, 1)", x -> x.hope(0, lane, 0, 1, 1), OUTSIDE);
                refused("hope(2, " + lane + ", 0, 1, 1), missing, too", x -> x.hope(2, lane, 0, 1, 1), OUTSIDE);
            }
            for (int n : new int[] {0, -1, 7, HUGE, LOW}) {
                refused("hope(1, 2, 0, " + n + ", 1)", x -> x.hope(1, 2, 0, n, 1), OUTSIDE);
                refused("hope(2, 0, 0, " + n + ", 1), missing, too", x -> x.hope(2, 0, 0, n, 1), OUTSIDE);
            }
            for (int c : new int[] {-1, 11, HUGE, LOW}) {
                refused("hope(1, 2, 0, 1, " + c + ")", x -> x.hope(1, 2, 0, 1, c), OUTSIDE);
                refused("hope(1, 0, 9, 1, " + c + "), another lane, no place, too", x -> x.hope(1, 0, 9, 1, c), OUTSIDE);
            }
            refused("hope(1, 2, 0, 7, 1), full, too", x -> x.hope(1, 2, 0, 7, 1), OUTSIDE);
        });
    }

    private static void hopeRefused() {
        sentence("NULL;", () -> {
            refused("hope(2, 0, 0, 1, 1)", x -> x.hope(2, 0, 0, 1, 1), NULL);
            refused("hope(2, 2, -1, 6, 1), all", x -> x.hope(2, 2, -1, 6, 1), NULL);
        });
        sentence("CAST;", () -> {
            refused("hope(0, 1, 0, 1, 1)", x -> x.hope(0, 1, 0, 1, 1), CAST);
            refused("hope(0, 2, 0, 1, 1)", x -> x.hope(0, 2, 0, 1, 1), CAST);
            refused("hope(1, 0, 0, 1, 1)", x -> x.hope(1, 0, 0, 1, 1), CAST);
            refused("hope(1, 1, 9, 6, 1), no place, full", x -> x.hope(1, 1, 9, 6, 1), CAST);
        });
        sentence("INDEX;", () -> {
            int[][] outside = {{5, 1}, {-1, 1}, {4, 2}, {0, 6}, {1, 5}, {HUGE, 1}, {HUGE, 6}, {LOW, 1}, {HUGE - 5, 6}};
            for (int[] row : outside) {
                refused("hope(1, 2, " + row[0] + ", " + row[1] + ", 1)", x -> x.hope(1, 2, row[0], row[1], 1), INDEX);
            }
            SumNames none = new SumNames();
            none.sheet(0, 0, 0);
            due("hope(0, 0, 0, 1, 1) of none", none.hope(0, 0, 0, 1, 1), INDEX);
            SumNames zero = new SumNames();
            zero.sheet(0, 0, 2);
            due("hope(0, 0, 1, 2, 1), no day, no place", zero.hope(0, 0, 1, 2, 1), INDEX);
        });
        sentence("NOT: one is no DAY;", () -> {
            for (int v : new int[] {0, -1, 401, HUGE, LOW}) {
                for (int at = 0; at < 3; at++) {
                    int place = at;
                    refused("hope(2, 2, 0, 3, 1), item " + at + " being " + v, () -> {
                        SumNames x = with("first 1 -;first 1 -;hope 9 9");
                        x.sheet(2, 2, 3);
                        for (int i = 0; i < 3; i++) {
                            x.lay(2, i, i == place ? v : 400);
                        }
                        return x;
                    }, x -> x.hope(2, 2, 0, 3, 1), NOT);
                }
            }
        });
        sentence("FULL (here in this order).", () -> {
            // some() has two hopes, so that there is room for four
            refused("hope(1, 2, 0, 5, 1)", x -> x.hope(1, 2, 0, 5, 1), FULL);
            due("hope(1, 2, 0, 4, 1)", some().hope(1, 2, 0, 4, 1), 6);
            SumNames x = laid(2);
            due("hope(1, 2, 0, 6, 1)", x.hope(1, 2, 0, 6, 1), 6);
            due("hope(1, 2, 0, 1, 1)", x.hope(1, 2, 0, 1, 1), FULL);
            due("hope(1, 2, 0, 6, 1)", x.hope(1, 2, 0, 6, 1), FULL);
            x.lay(1, 0, 401);
            due("hope(1, 2, 0, 1, 1), no day, full", x.hope(1, 2, 0, 1, 1), NOT);
            due("hope(1, 2, 20, 1, 1), no place, full", x.hope(1, 2, 20, 1, 1), INDEX);
            due("hope(1, 0, 0, 1, 1), another lane, full", x.hope(1, 0, 0, 1, 1), CAST);
            due("hope(2, 0, 0, 1, 1), missing, full", x.hope(2, 0, 0, 1, 1), NULL);
            due("hope(1, 2, 0, 7, 1), outside, full", x.hope(1, 2, 0, 7, 1), OUTSIDE);
            due("hope(3, 2, 0, 1, 1), unknown, full", x.hope(3, 2, 0, 1, 1), UNKNOWN);
            due("count(2)", x.count(2), 6);
        });
    }

    private static void keep() {
        section("Promise 30");
        sentence("All but THE TEXT and SHEETS is kept (k 0, 1): how many PERSONS.", () -> {
            for (int k = 0; k < 2; k++) {
                SumNames x = with("letter a 50;letter z 0;syl a;syl b;first 50 a;first 4 bb;hope 50 5;hope 4 5", "child 1 0 52 ab;child 0 1 52 -;degrees 1");
                due("keep(" + k + ")", x.keep(k), 4);
                x.sheet(0, 1, 4);
                put(x, "letter a 1;letter z 26;forget;degrees 4");
                due("told()", x.told(), 4);
                put(x, "syl q");
                due("back(" + k + ")", x.back(k), 4);
                int[] counts = {4, 2, 2, 1, 5, 4, NONE, NONE};
                for (int what = 0; what < 8; what++) {
                    due("count(" + what + ")", x.count(what), counts[what]);
                }
                due("letter(0)", x.letter(0), 50);
                due("letter(25)", x.letter(25), 0);
                int[][] rows = {{50, NONE, NONE, 0, 12}, {4, NONE, NONE, 0, 12}, {52, 1, 0, 1, 3}, {52, 0, 1, 2, 3}};
                long[] called = {1, code("bb"), code("ab"), 0};
                for (int p = 0; p < 4; p++) {
                    for (int what = 0; what < 5; what++) {
                        due("person(" + p + ", " + what + ")", x.person(p, what), rows[p][what]);
                    }
                    due("called(" + p + ")", x.called(p), called[p]);
                }
                due("name(aba)", x.name(code("aba")), 1);
                // the parents are called by the only names of both days
                chance(x, 0, 1, 1, 4);
                due("fault(), the text is not as it was", x.fault(), NONE);
                due("told()", x.told(), 1);
            }
            due("keep(0) of none", new SumNames().keep(0), 0);
            due("keep(1) of 16", full().keep(1), 16);
        });
        sentence("UNKNOWN.", () -> {
            for (int k : new int[] {-1, 2, 3, HUGE, LOW}) {
                refused("keep(" + k + ")", x -> x.keep(k), UNKNOWN);
            }
        });
    }

    private static void back() {
        section("Promise 31");
        sentence("It is as it was kept: how many PERSONS.", () -> {
            SumNames x = new SumNames();
            due("keep(0), nothing told", x.keep(0), 0);
            tell(x, "syl a;first 1 a;letter a 9");
            due("keep(1)", x.keep(1), 1);
            due("back(0)", x.back(0), 0);
            due("letter(0)", x.letter(0), 1);
            due("count(1)", x.count(1), 0);
            tell(x, "first 2 b;first 3 c");
            due("back(1)", x.back(1), 1);
            due("called(0)", x.called(0), 1);
            tell(x, "call 0 z;letter a 5;syl zz;hope 1 1;first 1 -");
            due("back(1), the image is not changed by what is told then", x.back(1), 1);
            due("called(0)", x.called(0), 1);
            due("letter(0)", x.letter(0), 9);
            due("count(1)", x.count(1), 1);
            due("count(2)", x.count(2), 0);
            due("keep(0), over another one", x.keep(0), 1);
            tell(x, "forget");
            due("back(0)", x.back(0), 1);
            due("back(0) again", x.back(0), 1);
            SumNames most = full();
            most.keep(0);
            tell(most, "forget");
            due("back(0) of 16", most.back(0), 16);
            due("called(15)", most.called(15), 16);
            due("name(jjj)", most.name(code("jjj")), 1);
            due("count(2)", most.count(2), 6);
        });
        sentence("UNKNOWN;", () -> {
            for (int k : new int[] {-1, 2, 3, HUGE, LOW}) {
                refused("back(" + k + ")", x -> x.back(k), UNKNOWN);
            }
        });
        sentence("NOT: nothing was.", () -> {
            refused("back(1), but 0 was", x -> x.back(1), NOT);
            SumNames x = with("first 1 a");
            due("back(0)", x.back(0), NOT);
            due("keep(1)", x.keep(1), 1);
            due("back(0), but 1 was", x.back(0), NOT);
            due("called(0)", x.called(0), 1);
        });
    }

    private static void count() {
        section("Promise 32");
        sentence("0 PERSONS, 1 SYLLABLES, 2 HOPES, 3 DEGREES told, 4 bytes of THE TEXT, 5 to 7 ITEMS of SHEETS 0 to 2 (NONE: missing).", () -> {
            SumNames x = full();
            tell(x, "degrees 4");
            put(x, "x".repeat(200));
            x.sheet(0, 0, 0);
            x.sheet(1, 1, 20);
            int[] most = {16, 10, 6, 4, 200, 0, 20, NONE};
            int[] least = {0, 0, 0, 3, 0, NONE, NONE, NONE};
            SumNames none = new SumNames();
            for (int what = 0; what < 8; what++) {
                due("count(" + what + ")", x.count(what), most[what]);
                due("count(" + what + ") of a new one", none.count(what), least[what]);
            }
            x.sheet(2, 2, 1);
            x.tear(1);
            due("count(7)", x.count(7), 1);
            due("count(6)", x.count(6), NONE);
        });
        sentence("OUTSIDE.", () -> {
            for (int what : new int[] {-1, 8, 9, HUGE, LOW}) {
                refused("count(" + what + ")", x -> x.count(what), OUTSIDE);
            }
        });
    }
}
