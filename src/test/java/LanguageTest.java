import com.sun.management.ThreadMXBean;
import java.lang.management.ManagementFactory;
import java.lang.reflect.Field;
import java.lang.reflect.Method;
import java.lang.reflect.Modifier;
import java.nio.file.Files;
import java.nio.file.Path;
import java.util.Map;
import java.util.Set;
import java.util.TreeMap;
import java.util.TreeSet;
import java.util.regex.Matcher;
import java.util.regex.Pattern;

/** What of LANGUAGE.md and of the document's face can be seen from outside; run from the project's folder. */
public final class LanguageTest {
    private static final String[] FACE = {
        "int write(int)", "int wipe()", "int fault()", "int house()", "int casket(int,int)", "int wooer(int,int)",
        "int attempt()", "int mend(int,int,int)", "int move(int)", "int sing(int)", "int undo()",
        "int lines(int,boolean)", "int riddle(int,boolean)", "int songs(int)", "int said(int,boolean)",
        "int belief(int,int,boolean)", "int judge(int,int)", "int share(int,boolean)", "int rests(int)",
        "int lost(int,int,boolean)", "long seed(long)", "int houses(int)", "int keep(int)", "int again(int)",
        "int count(int)"};
    private static final String[] RULED_OUT = {
        "\\bthrow\\b", "\\btry\\b", "\\bcatch\\b", "\\bsynchronized\\b", "\\bassert\\b", "->", "::", "\\bimport\\b",
        "\\bprotected\\b", "Exact\\b", "\\bhashCode\\b", "\\btoString\\b", "\\bpackage\\b", "\\bSystem\\b",
        "\\bstatic\\s*\\{"};

    /** A method's first line: how far it stands in, its name, its parameters. */
    private static final Pattern METHOD = Pattern.compile("(?m)^( +)[a-z][\\w\\[\\] ]* (\\w+)\\(([^)]*)\\) \\{$");

    public static void main(String[] args) throws Exception {
        face();
        String code = withoutComments(Files.readString(Path.of("src/main/java/CasketLines.java")));
        for (String pattern : RULED_OUT) {
            Matcher found = Pattern.compile(pattern).matcher(code);
            Due.is("a search for " + pattern, 0, found.find() ? 1 : 0);
        }
        methodsStayShort(code);
        classesStaySmall();
        libraryIsListed(code);
        callsStayShallow(code);
        callsMakeNothing();
        Due.end();
    }

    private static void face() {
        Class<?> type = CasketLines.class;
        Due.is("public and final", Modifier.PUBLIC | Modifier.FINAL, type.getModifiers());
        Due.is("constructors", 1, type.getDeclaredConstructors().length);
        Set<String> due = new TreeSet<>(Set.of(FACE));
        Set<String> seen = new TreeSet<>();
        Set<String> names = new TreeSet<>();
        Set<String> hidden = new TreeSet<>();
        for (Method method : type.getDeclaredMethods()) {
            if (Modifier.isPrivate(method.getModifiers())) {
                hidden.add(method.getName());
            } else {
                names.add(method.getName());
                seen.add(method.toString().replace("public ", "").replace("CasketLines.", ""));
            }
        }
        Due.is("the face is " + seen, 1, due.equals(seen) ? 1 : 0);
        for (Class<?> inside : type.getDeclaredClasses()) {
            Due.is(inside + " is static", 1, Modifier.isStatic(inside.getModifiers()) ? 1 : 0);
            for (Method method : inside.getDeclaredMethods()) {
                hidden.add(method.getName());
            }
        }
        hidden.retainAll(names);
        Due.is("hidden methods with names of the face " + hidden, 0, hidden.size());
        int open = 0;
        for (Field field : type.getDeclaredFields()) {
            int modifiers = field.getModifiers();
            open += Modifier.isPrivate(modifiers) ? 0 : 1;
            Due.is(field + " is final, if static", 1,
                !Modifier.isStatic(modifiers) || Modifier.isFinal(modifiers) ? 1 : 0);
        }
        Due.is("constants of the face", 5, open);
    }

    private static String withoutComments(String source) {
        return source.replaceAll("(?s)/\\*.*?\\*/", "").replaceAll("//[^\n]*", "");
    }

    private static void methodsStayShort(String code) {
        Matcher method = METHOD.matcher(code);
        int many = 0;
        while (method.find()) {
            many++;
            int end = code.indexOf("\n" + method.group(1) + "}", method.end());
            long lines = code.substring(method.start(), end).chars().filter(c -> c == '\n').count();
            Due.is(method.group().trim() + " has " + lines + " lines; is it short", 1, lines <= 60 ? 1 : 0);
            Due.is(method.group().trim() + " takes at most seven", 1, method.group(3).split(",").length <= 7 ? 1 : 0);
        }
        Due.is("methods were found", 1, many > 40 ? 1 : 0);
    }

    private static void classesStaySmall() {
        Class<?>[] inside = CasketLines.class.getDeclaredClasses();
        Due.is("classes (" + (1 + inside.length) + ") are twelve at most", 1, 1 + inside.length <= 12 ? 1 : 0);
        fieldsAreFew(CasketLines.class);
        for (Class<?> type : inside) {
            fieldsAreFew(type);
        }
    }

    private static void fieldsAreFew(Class<?> type) {
        int many = 0;
        for (Field field : type.getDeclaredFields()) {
            many += Modifier.isStatic(field.getModifiers()) ? 0 : 1;
        }
        Due.is("fields of " + type + " (" + many + ") are twenty at most", 1, many <= 20 ? 1 : 0);
    }

    /** Of the library only these are used; any other would have to be held against rule 4 first. */
    private static void libraryIsListed(String code) {
        Set<String> listed = Set.of("Integer.bitCount", "Long.bitCount", "Math.max", "Math.abs");
        Matcher use = Pattern.compile("\\b([A-Z]\\w*[a-z]\\w*\\.\\w+)\\(").matcher(code);
        while (use.find()) {
            Due.is(use.group(1) + " is listed", 1, listed.contains(use.group(1)) ? 1 : 0);
        }
        Due.is("signs beyond 127 in the program", 0, code.chars().filter(c -> c > 127).count());
    }

    /** Rule 11: eight calls deep at most. Methods of one name count as one, so the truth may only be less. */
    private static void callsStayShallow(String code) {
        Map<String, Set<String>> called = new TreeMap<>();
        Matcher method = METHOD.matcher(code);
        while (method.find()) {
            int end = code.indexOf("\n" + method.group(1) + "}", method.end());
            Set<String> names = called.computeIfAbsent(method.group(2), name -> new TreeSet<>());
            Matcher call = Pattern.compile("\\b(\\w+)\\(").matcher(code.substring(method.end(), end));
            while (call.find()) {
                names.add(call.group(1));
            }
        }
        for (String name : called.keySet()) {
            int depth = depthOf(name, called, 0);
            Due.is(name + " is " + depth + " calls deep, eight at most", 1, depth <= 8 ? 1 : 0);
        }
    }

    /** There is no recursion in the program; if some came, the depth would grow to a bound and be seen. */
    private static int depthOf(String name, Map<String, Set<String>> called, int above) {
        if (!called.containsKey(name) || above > 20) {
            return 0;
        }
        int deepest = 0;
        for (String next : called.get(name)) {
            deepest = Math.max(deepest, depthOf(next, called, above + 1));
        }
        return deepest + 1;
    }

    /** All rows are made in the constructor, so that a long run of calls needs no more room than a short one. */
    private static void callsMakeNothing() {
        CasketLines x = Due.housed("G1C000D133C230C341W0W1W2W3W2W1");
        ThreadMXBean room = (ThreadMXBean) ManagementFactory.getThreadMXBean();
        long self = Thread.currentThread().getId();
        room.getThreadAllocatedBytes(self);
        long before = room.getThreadAllocatedBytes(self);
        int sum = 0;
        for (int i = 0; i < 16; i++) {
            sum += everyCall(x, i % 4, i % 2 == 0);
        }
        long made = room.getThreadAllocatedBytes(self) - before;
        Due.is("bytes made by 16 rounds of every call (" + made + ", sum " + sum + ") are few", 1, made < 2000 ? 1 : 0);
    }

    private static int everyCall(CasketLines x, int c, boolean yes) {
        int sum = x.write('W') + x.fault() + x.house() + x.attempt() + x.mend(c, c, c) + x.move(c) + x.sing(c);
        sum += x.undo() + x.lines(c, yes) + x.riddle(c, yes) + x.riddle(15 - c, yes) + x.songs(c) + x.said(c, yes);
        sum += x.belief(c, c, yes) + x.judge(4, 201200) + x.share(c, yes) + x.rests(c) + x.lost(c, c, yes);
        sum += (int) x.seed(c) + x.houses(20) + x.keep(c) + x.again(c) + x.casket(c, c) + x.wooer(c, c);
        return sum + x.count(c);
    }
}
