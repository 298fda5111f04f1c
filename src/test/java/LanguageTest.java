import java.lang.management.ManagementFactory;
import java.lang.reflect.Constructor;
import java.lang.reflect.Field;
import java.lang.reflect.Method;
import java.lang.reflect.Modifier;
import java.nio.file.Files;
import java.nio.file.Path;
import java.util.ArrayList;
import java.util.List;
import java.util.Set;
import java.util.TreeSet;
import java.util.regex.Matcher;
import java.util.regex.Pattern;

/** The rules of LANGUAGE.md that can be seen in the source and in the compiled class, and what a run of calls makes. */
public final class LanguageTest {
    private static final String[] FACE = {"public int write(long,int)", "public int erase()", "public int fault()", "public int told()",
        "public int letter(int)", "public int person(int,int)", "public long called(int)", "public int degrees(int,int)",
        "public int as(int,int)", "public int sum(long)", "public int name(long)", "public int judge(int)", "public int taker(int)",
        "public int names(int,int)", "public long which(int,int)", "public long free(int,int)", "public long hopes(int,int,int)",
        "public int without(int,int,int)", "public long mend(int,int)", "public int old(int,int)", "public int reform(int,int)",
        "public long nicknames(int,int)", "public int page(int,int,int)", "public int sheet(int,int,int)", "public int tear(int)",
        "public int lay(int,int,int)", "public int copy(int,int,int,int,int)", "public int hope(int,int,int,int,int)",
        "public int keep(int)", "public int back(int)", "public int count(int)"};
    private static final String[] CONSTANTS = {"NONE", "UNKNOWN", "OUTSIDE", "NOT", "FULL", "NULL", "CAST", "INDEX", "SIZE"};
    private static final String[] BARRED = {"\\bthrow\\b", "\\btry\\b", "\\bcatch\\b", "\\bsynchronized\\b", "\\bassert\\b", "->", "::",
        "\\bimport\\b", "\\bpackage\\b", "\\bprotected\\b", "Exact\\b", "\\bstatic\\s*\\{", "\\bObject\\b", "\\bdouble\\b",
        "\\bfloat\\b", "\\bThread\\b", "System\\.(?!arraycopy\\b)", "while \\(true\\)", "for \\(;;"};
    private static int wrong = 0;

    public static void main(String[] args) throws Exception {
        String source = Files.readString(Path.of("src/main/java/SumNames.java"));
        checkWords(source);
        checkMethodLengths(source);
        checkFace();
        checkClasses();
        checkRoom();
        System.out.println(wrong == 0 ? "the rules are kept" : wrong + " rules are broken");
        if (wrong != 0) {
            System.exit(1);
        }
    }

    private static void must(boolean holds, String what) {
        if (!holds) {
            wrong++;
            System.out.println(what);
        }
    }

    private static void checkWords(String source) {
        String code = source.replaceAll("(?s)/\\*.*?\\*/", " ").replaceAll("//[^\n]*", " ").replaceAll("\"[^\"\n]*\"", "\"\"");
        for (String barred : BARRED) {
            must(!Pattern.compile(barred).matcher(code).find(), "the source has " + barred);
        }
        must(source.chars().allMatch(c -> c == '\n' || c >= 32 && c < 127), "the source has a sign that is not plain");
        for (String line : code.split("\n")) {
            must(!line.contains(" new ") || line.contains("private final") || line.contains(" final ") || line.contains("sheets[i] = new Sheet()")
                || line.contains("images[k] = new World()"), "a call may make what the constructor could: " + line.trim());
        }
    }

    private static void checkMethodLengths(String source) {
        String[] lines = source.split("\n");
        Pattern head = Pattern.compile("^ {4,8}(?:public |private |static |final )*[a-zA-Z\\[\\]]+ ?[a-zA-Z]*\\(([^)]*)\\) \\{$");
        for (int i = 0; i < lines.length; i++) {
            Matcher m = head.matcher(lines[i]);
            if (!m.matches()) {
                continue;
            }
            String indent = lines[i].substring(0, lines[i].indexOf(lines[i].trim()));
            int end = i;
            while (!lines[end].equals(indent + "}")) {
                end++;
            }
            must(end - i < 60, "too long a method: " + lines[i].trim());
            must(m.group(1).split(",").length <= 7, "too many parameters: " + lines[i].trim());
        }
    }

    private static void checkFace() {
        Class<?> c = SumNames.class;
        must(Modifier.isPublic(c.getModifiers()) && Modifier.isFinal(c.getModifiers()), "the class is not public and final");
        Set<String> found = new TreeSet<>();
        Set<String> faceNames = new TreeSet<>();
        for (Method m : c.getDeclaredMethods()) {
            if (!Modifier.isPrivate(m.getModifiers())) {
                found.add(m.toString().replace("SumNames.", ""));
                faceNames.add(m.getName());
            }
        }
        must(found.equals(Set.of(FACE)), "the methods are not the document's: " + found);
        for (Method m : c.getDeclaredMethods()) {
            must(!Modifier.isPrivate(m.getModifiers()) || !faceNames.contains(m.getName()), "private and of a public name: " + m);
        }
        for (Class<?> inside : c.getDeclaredClasses()) {
            for (Method m : inside.getDeclaredMethods()) {
                must(!faceNames.contains(m.getName()), "inside and of a public name: " + m);
            }
        }
        Set<String> constants = new TreeSet<>();
        for (Field f : c.getDeclaredFields()) {
            if (!Modifier.isPrivate(f.getModifiers())) {
                constants.add(f.getName());
                must(f.toString().startsWith("public static final int "), "no constant: " + f);
            }
        }
        must(constants.equals(Set.of(CONSTANTS)), "the constants are not the document's: " + constants);
        Constructor<?>[] made = c.getDeclaredConstructors();
        must(made.length == 1 && made[0].getParameterCount() == 0 && Modifier.isPublic(made[0].getModifiers()), "the constructor");
    }

    private static void checkClasses() {
        List<Class<?>> all = new ArrayList<>(List.of(SumNames.class.getDeclaredClasses()));
        must(all.size() < 12, "too many classes");
        for (Class<?> c : all) {
            must(Modifier.isStatic(c.getModifiers()) && !Modifier.isPublic(c.getModifiers()), "not static, or public: " + c);
            must(c.getDeclaredClasses().length == 0, "a class in a class inside: " + c);
        }
        all.add(SumNames.class);
        for (Class<?> c : all) {
            int fields = 0;
            for (Field f : c.getDeclaredFields()) {
                boolean isStatic = Modifier.isStatic(f.getModifiers());
                must(!isStatic || Modifier.isFinal(f.getModifiers()), "static, not final: " + f);
                must(!isStatic || List.of(int.class, long.class, boolean.class, char.class, String.class, int[].class, long[].class,
                    char[].class, byte[].class).contains(f.getType()), "static of such a type: " + f);
                fields += isStatic ? 0 : 1;
            }
            must(fields <= 20, "too many fields: " + c);
        }
    }

    /** The dearest state: 1000 names of one day, 16 persons, 6 hopes; no call in it makes anything, but an image the first time. */
    private static void checkRoom() {
        SumNames x = new SumNames();
        String[] texts = {"syl a;syl b;syl c;syl d;syl e;syl f;syl g;syl h", "syl i;syl j;letter a 1;letter b 1;letter c 1;letter d 1",
            "letter e 1;letter f 1;letter g 1;letter h 1;letter i 1;letter j 1", "hope 3 5;hope 3 5;hope 3 5;hope 3 5;hope 3 5;hope 3 5"};
        for (String text : texts) {
            Answers.put(x, text);
            must(x.told() > 0, "a fault in " + text);
        }
        for (int i = 0; i < 16; i++) {
            Answers.put(x, i < 2 ? "first 25 edcba" : "child 0 1 25 edcba");
            must(x.told() == 1, "a fault at person " + i);
        }
        x.sheet(0, 2, 20);
        x.keep(0);
        x.keep(1);
        callAll(x);
        com.sun.management.ThreadMXBean threads = (com.sun.management.ThreadMXBean) ManagementFactory.getThreadMXBean();
        long id = Thread.currentThread().getId();
        long before = threads.getThreadAllocatedBytes(id);
        for (int i = 0; i < 10; i++) {
            callAll(x);
        }
        long made = threads.getThreadAllocatedBytes(id) - before;
        must(made < 10000, "310 calls made " + made + " bytes of objects");
    }

    private static long callAll(SumNames x) {
        long all = x.write(0x746567726f66L, 6) + x.fault() + x.erase() + x.letter(0) + x.person(0, 4) + x.called(0) + x.degrees(0, 15)
            + x.as(0, 0) + x.sum(786) + x.name(786) + x.judge(15) + x.taker(15) + x.names(3, 3) + x.which(3, 999) + x.free(0, -1)
            + x.hopes(0, 1, 0) + x.without(1, 400, 0) + x.mend(1, 3) + x.old(9, -1) + x.reform(15, 2) + x.nicknames(15, 0)
            + x.page(65535, 400, 0) + x.lay(0, 0, 1) + x.copy(0, 0, 0, 1, 19) + x.hope(0, 2, 0, 6, 1) + x.keep(0) + x.back(0) + x.count(0);
        x.write(0x3120736565726765L, 8);
        return all + x.told() + x.erase();
    }
}
