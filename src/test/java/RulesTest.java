import java.lang.management.ManagementFactory;
import java.lang.reflect.Field;
import java.lang.reflect.Method;
import java.lang.reflect.Modifier;
import java.nio.file.DirectoryStream;
import java.nio.file.Files;
import java.nio.file.Path;
import java.util.Arrays;
import java.util.Set;
import java.util.TreeSet;
import java.util.regex.Matcher;
import java.util.regex.Pattern;
import java.util.stream.Collectors;

/** What can be seen of LANGUAGE.md's rules from outside: the face, the source's words, the room that calls take. */
public final class RulesTest {
    /** The methods of the document's face, each as "int feed(int,int) throws X". */
    private static Set<String> toldFace(String doc) {
        Set<String> all = new TreeSet<>();
        Matcher m = Pattern.compile("    public (\\w+ \\w+)\\(([^)]*)\\)( throws \\w+)?;").matcher(doc);
        while (m.find()) {
            String types = m.group(2).replaceAll("(\\w+) \\w+", "$1").replace(" ", "");
            all.add(m.group(1) + "(" + types + ")" + (m.group(3) == null ? "" : m.group(3)));
        }
        return all;
    }

    private static String signOf(Method m) {
        String types = Arrays.stream(m.getParameterTypes()).map(Class::getSimpleName).collect(Collectors.joining(","));
        String thrown = Arrays.stream(m.getExceptionTypes()).map(t -> " throws " + t.getSimpleName()).collect(Collectors.joining());
        return m.getReturnType().getSimpleName() + " " + m.getName() + "(" + types + ")" + thrown;
    }

    private static void theFace(String doc) {
        Class<?> c = LastSeat.class;
        Check.due("public final", true, Modifier.isPublic(c.getModifiers()) && Modifier.isFinal(c.getModifiers()));
        Set<String> open = new TreeSet<>();
        Set<String> names = new TreeSet<>();
        for (Method m : c.getDeclaredMethods()) {
            if (!Modifier.isPrivate(m.getModifiers())) {
                Check.due(m + " is public and of an object", Modifier.PUBLIC, m.getModifiers());
                open.add(signOf(m));
                names.add(m.getName());
            }
        }
        Check.due("calls of the document", 42, toldFace(doc).size());
        Check.due("the methods " + open, true, open.equals(toldFace(doc)));
        Check.due("constructors", 1, c.getDeclaredConstructors().length);
        Check.due("a constructor without arguments, for all", 1, c.getConstructors().length);
        Check.due("NONE", -1, LastSeat.NONE);
        for (Field f : c.getDeclaredFields()) {
            Check.due("field " + f.getName(), f.getName().equals("NONE"), !Modifier.isPrivate(f.getModifiers()));
        }
        privateNames(c, names);
        Check.due("some twelve classes", true, c.getDeclaredClasses().length <= 12);
        for (Class<?> in : c.getDeclaredClasses()) {
            Check.due(in + " is static", true, Modifier.isStatic(in.getModifiers()) && !Modifier.isPublic(in.getModifiers()));
            privateNames(in, names);
            long fields = Arrays.stream(in.getDeclaredFields()).filter(f -> !Modifier.isStatic(f.getModifiers())).count();
            Check.due(in + " has some twenty fields", true, fields <= 20);
            for (Method m : in.getDeclaredMethods()) Check.due(m + " seven parameters", true, m.getParameterCount() <= 7);
        }
    }

    private static void privateNames(Class<?> c, Set<String> face) {
        for (Method m : c.getDeclaredMethods()) {
            boolean bad = Modifier.isPrivate(m.getModifiers()) && face.contains(m.getName());
            Check.due("private " + m, false, bad);
        }
    }

    private static void theWords(String source) {
        String code = source.replaceAll("(?s)/\\*.*?\\*/", "").replaceAll("//[^\n]*", "");
        String bare = code.replaceAll("\"(\\\\.|[^\"\\\\])*\"", "\"\"");
        String[] not = {"->", "::", "\\bfinally\\b", "\\bsynchronized\\b", "\\bassert\\b", "\\btry\\b", "\\bcatch\\b",
            "static\\s*\\{", "Exact\\s*\\(", "\"\"\\s*\\+", "\\+\\s*\"\"", "\\bpackage\\b", "\\bSystem\\.(?!arraycopy)",
            "\\bprotected\\b", "\\bdouble\\b", "\\bfloat\\b", "\\bhashCode\\b", "\\btoString\\b"};
        for (String s : not) {
            Matcher m = Pattern.compile(s).matcher(bare);
            Check.due("the source has " + s, false, m.find());
        }
        Matcher imports = Pattern.compile("import ([^;]*);").matcher(code);
        while (imports.find()) Check.due("import", true, imports.group(1).equals("java.util.NoSuchElementException"));
        for (String line : source.split("\n")) Check.due("signs of " + line, true, line.chars().allMatch(ch -> ch >= 32 && ch < 127));
        methodLengths(source);
    }

    /** Methods stay under sixty lines: each ends by a brace in the column it began in. */
    private static void methodLengths(String source) {
        String[] lines = source.split("\n");
        for (int i = 0; i < lines.length; i++) {
            Matcher m = Pattern.compile("^( +)[^ ].*\\) (throws \\w+ )?\\{$").matcher(lines[i]);
            if (!m.find() || lines[i].contains(" if (") || lines[i].contains(" for (") || lines[i].contains("while (")) continue;
            int j = i;
            while (j < lines.length && !lines[j].equals(m.group(1) + "}")) j++;
            Check.due("length of " + lines[i].trim() + " " + (j - i), true, j - i <= 60);
        }
    }

    private static int use(LastSeat x, int i) {
        int g = i % 7;
        int sum = x.sit(g) + x.rise(g) + x.serve(i % 6) + x.hide(i % 9) + x.show(i % 9) + x.rounds(1) + x.next() + x.nextIn();
        sum += x.linger(g) + x.trick(g) + x.push(g) + x.safe(g) + x.hosts(1) + x.menu() + x.plate(g) + x.drawn(2, i);
        sum += x.odds(g, 30, i) + x.said(NONE) + x.undo() + x.when(g, 1) + (x.image(i % 2) ? 1 : 0) + (x.restore(i % 2) ? 1 : 0);
        return sum;
    }

    private static final int NONE = LastSeat.NONE;

    private static int texts(LastSeat x, int[] hall, int hallSize, int[] book, int bookSize) {
        for (int i = 0; i < hall.length; i += 5) x.feed(hall[i], hall[i + 1], hall[i + 2], hall[i + 3], hall[i + 4]);
        x.end(hallSize);
        int sum = x.hall();
        for (int i = 0; i < book.length; i += 5) x.feed(book[i], book[i + 1], book[i + 2], book[i + 3], book[i + 4]);
        x.end(bookSize);
        return sum + x.book(1) + x.sentence() + x.gone() + x.proud();
    }

    /** After the constructor no call makes an object: what a thread has taken hardly grows over many calls. */
    private static void theRoom() {
        String hall = "chairs 9;guest a 100 3 1 0;guest b 90 2 2 1;guest c 80 9 1 2;dish k 9;dish l 8;pays a b;";
        String book = "a sits;serve k;hide 8;round 3;b rises;";
        int[] h = Check.numbers(hall);
        int[] b = Check.numbers(book);
        com.sun.management.ThreadMXBean threads = (com.sun.management.ThreadMXBean) ManagementFactory.getThreadMXBean();
        long me = Thread.currentThread().getId();
        long start = threads.getThreadAllocatedBytes(me);
        LastSeat x = new LastSeat();
        long made = threads.getThreadAllocatedBytes(me) - start;
        Check.due("a new object takes " + made + " bytes", true, made < 100000);
        int sum = 0;
        for (int i = 0; i < 20; i++) sum += use(x, i) + texts(x, h, hall.length(), b, book.length());
        long before = threads.getThreadAllocatedBytes(me);
        for (int i = 0; i < 200; i++) sum += use(x, i) + texts(x, h, hall.length(), b, book.length());
        long took = threads.getThreadAllocatedBytes(me) - before;
        Check.due("calls took " + took + " bytes (" + sum + ")", true, took < 4000);
    }

    /** Each promise has a boundary test that bears its number. */
    private static void theEdges() throws Exception {
        Set<Integer> seen = new TreeSet<>();
        try (DirectoryStream<Path> tests = Files.newDirectoryStream(Path.of("src/test/java"), "*EdgeTest.java")) {
            for (Path test : tests) {
                Matcher m = Pattern.compile("static void p(\\d\\d)_\\w+\\(\\)").matcher(Files.readString(test));
                while (m.find()) seen.add(Integer.parseInt(m.group(1)));
            }
        }
        for (int i = 1; i <= 43; i++) Check.due("promise " + i + " has a boundary test", true, seen.contains(i));
    }

    public static void main(String[] args) throws Exception {
        theFace(Files.readString(Path.of("../shared/DOC.md")));
        theEdges();
        theWords(Files.readAllLines(Path.of("src/main/java/LastSeat.java")).stream().collect(Collectors.joining("\n")));
        theRoom();
        Check.finish();
    }
}
