import java.io.IOException;
import java.math.BigInteger;
import java.nio.file.Files;
import java.nio.file.Path;
import java.util.Collections;
import java.util.TreeMap;
import java.util.function.Supplier;
import java.util.function.ToLongFunction;
import java.util.regex.Matcher;
import java.util.regex.Pattern;

/** What the tests of single sentences share: the document's words, faults by a mark, refused calls that must change nothing. */
abstract class Sentences extends Answers {
    private static final Path DOCUMENT = Path.of("../shared/DOC.md");
    private static final TreeMap<String, StringBuilder> UNTESTED = new TreeMap<>();
    private static String section = "";
    private static int sentences = 0;

    // ---- the document

    /** The words of the document that tell what must be, by sections, without headings, signatures and marks. */
    static void readDocument() throws IOException {
        if (!Files.exists(DOCUMENT)) {
            System.out.println(DOCUMENT + " is not there: the sentences are not compared with it");
            return;
        }
        String all = Files.readString(DOCUMENT).replaceAll("```[a-z]*", " ").replaceAll("(?m)^Ahead of the calls.*$", " ");
        Matcher m = Pattern.compile("(?m)^## (.*)$").matcher(all);
        int from = 0;
        String name = "";
        while (m.find()) {
            addSection(name, all.substring(from, m.start()));
            name = m.group(1);
            from = m.end();
        }
    }

    private static void addSection(String name, String words) {
        boolean told = name.equals("What it is") || name.equals("Terms") || name.startsWith("Promise ");
        if (told) {
            String plain = words.replaceFirst("(?s)^.*?======== 1 ", "").replaceAll("======== \\d", " ").replaceAll("`[^`]*`: ", " ");
            UNTESTED.put(name.replaceAll(":.*", ""), new StringBuilder(plain.replaceAll("\\s+", " ")));
        }
    }

    static void section(String name) {
        section = name;
    }

    /** One sentence of the document, or a part of one, and the calls that show that it holds. */
    static void sentence(String words, Runnable calls) {
        where = section + ", '" + words + "'";
        sentences++;
        strike(words);
        int before = checked;
        try {
            calls.run();
        } catch (RuntimeException thrown) {
            isWrong("threw " + thrown);
        }
        if (checked == before) {
            isWrong("no call shows it");
        }
    }

    private static void strike(String words) {
        if (UNTESTED.isEmpty()) {
            return;
        }
        StringBuilder left = UNTESTED.get(section);
        int at = left == null ? -1 : left.indexOf(words);
        if (at < 0) {
            isWrong("the document does not say so, or not so often");
        } else {
            left.replace(at, at + words.length(), "|");
        }
    }

    /** Each word of the document stands in a sentence that is tested. */
    static void mustBeWhole() {
        where = "the document";
        for (String name : UNTESTED.keySet()) {
            String left = UNTESTED.get(name).toString();
            if (left.matches(".*[a-zA-Z0-9].*")) {
                isWrong("no test for these words of " + name + ": " + left);
            }
        }
        System.out.println(sentences + " sentences");
    }

    // ---- texts

    /** The mark ^ stands where the fault is due; without one there is none. */
    static void marked(SumNames x, String... texts) {
        for (String text : texts) {
            faultAt(x, text.replace("^", ""), text.indexOf('^'));
        }
    }

    static String times(int n, String line) {
        return String.join(";", Collections.nCopies(n, line));
    }

    /** A long row of letters whose code, were it counted in so many bits, would wrap around to a given one. */
    static String wrappingWord(long code, int bits) {
        BigInteger around = BigInteger.ONE.shiftLeft(bits);
        BigInteger n = BigInteger.valueOf(code).add(around);
        while (n.toString(27).contains("0") || n.toString(27).length() < 10) {
            n = n.add(around);
        }
        StringBuilder word = new StringBuilder();
        for (char c : n.toString(27).toCharArray()) {
            word.append((char) ('a' + Character.digit(c, 27) - 1));
        }
        return word.toString();
    }

    static String wrappingNumber(long number, int bits) {
        return BigInteger.ONE.shiftLeft(bits).add(BigInteger.valueOf(number)).toString();
    }

    // ---- kin

    static int bits(int... places) {
        int all = 0;
        for (int place : places) {
            all |= 1 << place;
        }
        return all;
    }

    /** As far apart as 16 can be: 0, 2, 1, 4, 3, 6, 5, 8, 7, 10, 9, 12, 11, 14, 13, each a step from the next; 15 is alone. */
    static SumNames row() {
        return with("first 1 -;first 1 -;child 0 1 1 -;first 1 -;child 1 3 1 -;first 1 -;child 3 5 1 -;first 1 -",
            "child 5 7 1 -;first 1 -;child 7 9 1 -;first 1 -;child 9 11 1 -;first 1 -;child 11 13 1 -;first 1 -");
    }

    static SumNames full() {
        return with("first 1 a;first 2 b;first 3 c;first 4 d;first 5 e;first 6 f;first 7 g;first 8 h",
            "first 9 i;first 10 j;first 11 k;first 12 l;first 13 m;first 14 n;first 15 o;first 16 p",
            "syl a;syl b;syl c;syl d;syl e;syl f;syl g;syl h", "syl i;syl j", times(6, "hope 30 5"));
    }

    // ---- refused calls

    /**
     * Some of all: persons 0 to 5 (3 called nothing, 5 with a sixth letter), syllables, hopes, image 0 but not 1, sheet 0 of
     * bytes, sheet 1 of ints, 2 missing, a text with a fault.
     */
    static SumNames some() {
        SumNames x = with("syl x;first 9 x;hope 8 3;degrees 1;letter b 7");
        x.keep(0);
        tell(x, "forget;letter b 2;degrees 2;syl a;syl b;syl ab;hope 3 5;hope 6 4",
            "first 3 ab;first 3 ba;child 0 1 3 ab;child 1 0 3 -;child 2 1 400 zzzzzzzzz;first 6 abc");
        x.sheet(0, 0, 3);
        x.sheet(1, 2, 5);
        for (int i = 0; i < 5; i++) {
            x.lay(0, i, 63 + 3 * i);
            x.lay(1, i, 201 + 3 * i);
        }
        put(x, "syl q;bad");
        return x;
    }

    /** A call on what some() tells that is refused, by which nothing may change. */
    static void refused(String call, ToLongFunction<SumNames> calling, long want) {
        SumNames x = refused(call, Sentences::some, calling, want);
        x.erase();
        items(x, 0, 0, 63, 66, 69);
        items(x, 1, 2, 201, 204, 207, 210, 213);
    }

    /** The same on another object: as it is then, and as its images are, so must be one on which nothing was called. */
    static SumNames refused(String call, Supplier<SumNames> made, ToLongFunction<SumNames> calling, long want) {
        SumNames x = made.get();
        SumNames untouched = made.get();
        due(call, calling.applyAsLong(x), want);
        for (int image = -1; image < 2; image++) {
            if (image >= 0) {
                due("back(" + image + ") behind the refused " + call, x.back(image), untouched.back(image));
            }
            String after = allOf(x);
            String before = allOf(untouched);
            checked++;
            if (!after.equals(before)) {
                isWrong(call + " was refused, but changed\n    " + before + " to\n    " + after);
            }
        }
        return x;
    }

    private static String allOf(SumNames x) {
        StringBuilder all = new StringBuilder("counts");
        for (int what = 0; what < 8; what++) {
            all.append(' ').append(x.count(what));
        }
        all.append(" fault ").append(x.fault()).append(" letters");
        for (int letter = 0; letter < 26; letter++) {
            all.append(' ').append(x.letter(letter));
        }
        all.append(" persons");
        int persons = x.count(0);
        for (int p = 0; p < persons; p++) {
            all.append(' ').append(x.person(p, 0)).append(' ').append(x.person(p, 1)).append(' ').append(x.person(p, 2));
            all.append(' ').append(x.person(p, 3)).append(' ').append(x.called(p));
        }
        all.append(" names");
        for (int day = 1; day <= 9; day++) {
            all.append(' ').append(x.names(day, 0)).append(' ').append(x.which(day, 0));
        }
        return all.append(" hopes ").append(x.hopes(0, 1, 0)).append('/').append(x.hopes(0, 1, 1)).toString();
    }
}
