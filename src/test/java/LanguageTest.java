import java.lang.reflect.Constructor;
import java.lang.reflect.Field;
import java.lang.reflect.Method;
import java.lang.reflect.Modifier;
import java.nio.file.Files;
import java.nio.file.Path;
import java.util.ArrayList;
import java.util.Arrays;
import java.util.List;
import java.util.Set;
import java.util.TreeSet;
import java.util.regex.Matcher;
import java.util.regex.Pattern;

/** The face, the rules of LANGUAGE.md that can be seen from outside, and the room that an object takes. */
public final class LanguageTest {
    private static int wrong = 0;

    private static void check(boolean right, String what) {
        if (!right) {
            wrong++;
            System.out.println(what);
        }
    }

    private static final String[] FACE = {
        "int feed(int,int,int,int,int)", "int board(int)", "int fault(int)", "int pit(int)", "int store(int)", "int mover()",
        "int may(int)", "int move(int)", "int sown(int,int)", "boolean undo()", "boolean redo()", "boolean over()", "int score()",
        "int judge(int,int)", "int perform(int)", "int positions(int,int)", "int place()", "int ofPlace(int,int,int,int)",
        "int value()", "int rank()", "int best()", "int worth(int)", "int valueOf(int,int,int)", "int tally(int,int,int)",
        "int row(int,int,int,int)", "int find(int,int,int,int)", "int most(int,int,int)", "int swapped()", "int line(int)",
        "int plays(int)", "int reached(int)", "int soonest(int)", "int pits(int)", "int forced()", "int play(int,int)",
        "int against(int,int)", "void tray(int,int,int)", "long write(int,int,long)", "int pour(int)", "void image(int)",
        "void restore(int)", "int count(int)",
    };

    private static void checkFace() {
        Set<String> due = new TreeSet<>(Arrays.asList(FACE));
        Set<String> names = new TreeSet<>();
        Set<String> got = new TreeSet<>();
        for (String method : FACE) {
            names.add(method.substring(method.indexOf(' ') + 1, method.indexOf('(')));
        }
        for (Method m : SowingHouse.class.getDeclaredMethods()) {
            if (Modifier.isPrivate(m.getModifiers())) {
                check(!names.contains(m.getName()), "a private method with a public one's name: " + m);
                continue;
            }
            check(Modifier.isPublic(m.getModifiers()), "not public: " + m);
            String text = m.toGenericString().replaceAll(" throws .*", "").replaceAll("^public ", "").replace("SowingHouse.", "");
            got.add(text.replace(", ", ","));
        }
        check(got.equals(due), "the face is " + got);
        Constructor<?>[] makers = SowingHouse.class.getDeclaredConstructors();
        check(makers.length == 1 && Modifier.isPublic(makers[0].getModifiers()) && makers[0].getParameterCount() == 0, "the constructor");
        check(Modifier.isFinal(SowingHouse.class.getModifiers()), "the class is final");
        for (Field f : SowingHouse.class.getDeclaredFields()) {
            boolean constant = f.getName().equals("NONE") || f.getName().equals("SPENT");
            check(constant ? Modifier.isPublic(f.getModifiers()) : Modifier.isPrivate(f.getModifiers()), "a field that can be seen: " + f);
        }
        for (Class<?> c : SowingHouse.class.getDeclaredClasses()) {
            for (Method m : c.getDeclaredMethods()) {
                check(!names.contains(m.getName()), "a method inside with a public one's name: " + m);
            }
        }
    }

    private static void checkClasses() {
        List<Class<?>> all = new ArrayList<>(Arrays.asList(SowingHouse.class.getDeclaredClasses()));
        all.add(SowingHouse.class);
        check(all.size() <= 12, "classes: " + all.size());
        for (Class<?> c : all) {
            int fields = 0;
            for (Field f : c.getDeclaredFields()) {
                if (Modifier.isStatic(f.getModifiers())) {
                    check(Modifier.isFinal(f.getModifiers()), "a static field that isn't final: " + f);
                } else {
                    fields++;
                }
            }
            check(fields <= 20, "fields of " + c + ": " + fields);
            check(c == SowingHouse.class || Modifier.isStatic(c.getModifiers()), "not static: " + c);
            for (Method m : c.getDeclaredMethods()) {
                check(m.getParameterCount() <= 7, "parameters of " + m);
            }
        }
    }

    private static void checkText() throws Exception {
        String text = Files.readString(Path.of("src/main/java/SowingHouse.java"));
        String code = text.replaceAll("(?s)/\\*.*?\\*/", "").replaceAll("//[^\n]*", "");
        for (String bad : List.of("->", "::", "finally", "synchronized", "assert ", "catch", "instanceof", "Exact", "String.format",
                "double", "float", "hashCode", "toString", "package ", "System.out", "System.nano", "System.current", "Thread", "Random")) {
            check(!code.contains(bad), "stands in the class: " + bad);
        }
        Matcher library = Pattern.compile("\\b(import [^;]*|System\\.\\w+|Math\\.\\w+|Integer\\.\\w+|Long\\.\\w+|Arrays\\.\\w+)").matcher(code);
        Set<String> used = Set.of("import java.util.NoSuchElementException", "System.arraycopy", "Math.min", "Math.max", "Integer.bitCount");
        while (library.find()) {
            check(used.contains(library.group()), "of the library: " + library.group());
        }
        Matcher thrown = Pattern.compile("throw ([^;]*);").matcher(code);
        while (thrown.find()) {
            check(thrown.group(1).matches("new (IllegalStateException|IllegalArgumentException|IndexOutOfBoundsException|NoSuchElementException)\\(\"[^\"]*\"\\)"),
                    "thrown: " + thrown.group(1));
        }
        check(code.chars().allMatch(c -> c < 128), "a sign above 127");
        checkLengths(text);
    }

    /** A method begins with a line that ends in an open brace, four or eight blanks in, and ends at its own brace. */
    private static void checkLengths(String text) {
        String[] lines = text.split("\n");
        for (int i = 0; i < lines.length; i++) {
            Matcher head = Pattern.compile("^( {4}| {8})[a-z].*\\).*\\{$").matcher(lines[i]);
            if (head.matches()) {
                int end = i;
                while (!lines[end].equals(head.group(1) + "}")) {
                    end++;
                }
                check(end - i < 60, "long: " + lines[i].trim());
            }
        }
    }

    private static void feedText(SowingHouse x, String text) {
        String padded = text + " ".repeat(19);
        for (int i = 0; i < text.length(); i += 20) {
            int[] five = new int[5];
            for (int j = 0; j < 20; j++) {
                five[j / 4] = five[j / 4] << 8 | padded.charAt(i + j);
            }
            x.feed(five[0], five[1], five[2], five[3], five[4]);
        }
        x.board(text.length());
    }

    /** Dear calls; none of them may make objects. */
    private static int dear(SowingHouse x) {
        int sum = x.value() + x.rank() + x.best() + x.swapped() + x.forced();
        int s = x.count(2);
        for (int i = 0; i < 3; i++) {
            sum += x.line(i) + x.plays(5) + x.reached(4) + x.soonest(i) + x.pits(i) + x.play(i, i) + x.against(i, i);
            sum += x.tally(i % 2, s, i) + x.most(0, s, i) + x.find(1, s, i, i) + x.row(0, s, i, 1) + x.valueOf(1, s, i);
            sum += x.move(x.best()) + (x.undo() ? 1 : 0) + (x.redo() ? 1 : 0) + (x.undo() ? 1 : 0);
            x.tray(i, i, 40);
            x.image(i);
            sum += x.pour(i) + x.judge(i, 0) + x.perform(i);
            x.restore(i);
        }
        return sum;
    }

    private static void checkRoom() {
        com.sun.management.ThreadMXBean bean =
                (com.sun.management.ThreadMXBean) java.lang.management.ManagementFactory.getThreadMXBean();
        long thread = Thread.currentThread().getId();
        bean.getThreadAllocatedBytes(thread);
        long start = bean.getThreadAllocatedBytes(thread);
        SowingHouse x = new SowingHouse();
        long made = bean.getThreadAllocatedBytes(thread) - start;
        check(made < 600_000, "bytes for a new object: " + made);
        feedText(x, "pits 5;lay 1 1 0 1 1 1 0 0 1;lacking 9;take grand;feed;");
        dear(x);
        feedText(x, "pits 3;lay 2 2 2 2 1;take opposite;relay 4;");
        start = bean.getThreadAllocatedBytes(thread);
        dear(x);
        made = bean.getThreadAllocatedBytes(thread) - start;
        check(made < 2_000, "bytes that calls made: " + made);
        System.out.println("room is looked at");
    }

    public static void main(String[] args) throws Exception {
        checkFace();
        checkClasses();
        checkText();
        checkRoom();
        System.out.println(wrong + " wrong");
        if (wrong != 0) {
            System.exit(1);
        }
    }
}
