import java.io.IOException;
import java.nio.file.Files;
import java.nio.file.Path;
import java.util.NoSuchElementException;
import java.util.Set;
import java.util.TreeSet;

/** Checks of calls, each told under the promise and the sentence of the document that it tests. */
final class Due {
    static final Class<?> NO_ELEMENT = NoSuchElementException.class;
    static final Class<?> STATE = IllegalStateException.class;
    static final Class<?> ARGUMENT = IllegalArgumentException.class;
    static final Class<?> BOUNDS = IndexOutOfBoundsException.class;

    /** Numbers that are wrong wherever a small one is asked for. */
    static final int[] FAR = {Integer.MIN_VALUE, Integer.MIN_VALUE + 1, -1001, 1000, Integer.MAX_VALUE - 1, Integer.MAX_VALUE};

    interface Call {
        void on(SowingHouse x);
    }

    interface Asked {
        long of(SowingHouse x);
    }

    private static final String TAPED = "lay 1 2 3;";
    private static final String DOCUMENT = document();
    private static final Set<Integer> PROMISES = new TreeSet<>();
    private static int promise;
    private static String words = "";
    private static int sentences;
    private static int checks;
    private static int checksBefore;
    private static int wrong;

    private Due() {
    }

    private static String document() {
        try {
            return Files.readString(Path.of("../shared/DOC.md")).replaceAll("\\s+", " ");
        } catch (IOException e) {
            return "";
        }
    }

    /** The checks from here on test this sentence, or part of one, as a call of this promise shows it. */
    static void says(int number, String sentence) {
        closeSentence();
        promise = number;
        words = sentence;
        PROMISES.add(number);
        sentences++;
        checksBefore = checks;
        if (!DOCUMENT.contains(sentence)) {
            tell("the document does not say so");
        }
    }

    private static void closeSentence() {
        if (sentences > 0 && checks == checksBefore) {
            tell("nothing is checked");
        }
    }

    private static void tell(String what) {
        wrong++;
        System.out.println("promise " + promise + ", \"" + words + "\": " + what);
    }

    static void end(int firstPromise, int lastPromise) {
        closeSentence();
        for (int i = firstPromise; i <= lastPromise; i++) {
            if (!PROMISES.contains(i)) {
                promise = i;
                words = "";
                tell("no sentence of it is tested");
            }
        }
        System.out.println(sentences + " sentences, " + checks + " checks, " + wrong + " wrong");
        if (wrong != 0) {
            System.exit(1);
        }
    }

    // ---- checks

    static void due(String call, long got, long want) {
        checks++;
        if (got != want) {
            tell(call + " answered " + got + ", due is " + want);
        }
    }

    static void due(String call, boolean got, boolean want) {
        due(call, got ? 1 : 0, want ? 1 : 0);
    }

    static void duePits(String when, SowingHouse x, int... want) {
        int pits = 2 * x.count(1);
        due(when + ": pits", pits, want.length);
        for (int p = 0; p < want.length && p < pits; p++) {
            due(when + ": pit(" + p + ")", x.pit(p), want[p]);
        }
    }

    /** An answer that is due, and nothing changes. */
    static void dueOnly(String call, SowingHouse x, Asked it, long want) {
        String before = told(x);
        due(call, it.of(x), want);
        dueSame(call, before, told(x));
    }

    /** The exception that is due, and nothing changes. */
    static void refused(Class<?> want, String call, SowingHouse x, Call it) {
        String before = told(x);
        checks++;
        String got = "nothing";
        try {
            it.on(x);
        } catch (RuntimeException e) {
            got = e.getClass().getName();
        }
        if (!got.equals(want.getName())) {
            tell(call + " threw " + got + ", due is " + want.getName());
        }
        dueSame(call, before, told(x));
    }

    /** The same on a new object with this board, a tape, a fault, a tray and an image that must stay. */
    static void refused(Class<?> want, String call, String text, Call it) {
        SowingHouse x = busyHouse(text);
        refused(want, call, x, it);
        dueKept(call, x, text);
    }

    /** What a busy house has on its tape and in its images; it is at an end then. */
    private static void dueKept(String call, SowingHouse x, String text) {
        due(call + ": the tape is read", x.board(TAPED.length()), 1);
        duePits(call + ": the tape", x, 1, 2, 3, 0, 0, 0);
        for (int i = 0; i < 2; i++) {
            due(call + ": image " + i, hasImage(x, i), false);
        }
        due(call + ": image 2", hasImage(x, 2), true);
        dueSame(call + ": image 2", board(house(text)), board(x));
    }

    private static boolean hasImage(SowingHouse x, int i) {
        try {
            x.restore(i);
            return true;
        } catch (IllegalStateException e) {
            return false;
        }
    }

    private static void dueSame(String call, String before, String after) {
        checks++;
        if (!after.equals(before)) {
            tell(call + " changed " + before + " to " + after);
        }
    }

    // ---- objects

    static int tape(SowingHouse x, String text) {
        StringBuilder padded = new StringBuilder(text);
        while (padded.length() % 20 != 0) {
            padded.append(' ');
        }
        int answer = x.count(6);
        for (int i = 0; i < padded.length(); i += 20) {
            int[] five = new int[5];
            for (int j = 0; j < 20; j++) {
                five[j / 4] = five[j / 4] << 8 | padded.charAt(i + j);
            }
            answer = x.feed(five[0], five[1], five[2], five[3], five[4]);
        }
        return answer;
    }

    static int read(SowingHouse x, String text) {
        tape(x, text);
        return x.board(text.length());
    }

    static SowingHouse house(String text) {
        SowingHouse x = new SowingHouse();
        if (read(x, text) < 0) {
            tell("not read: " + text + ", fault " + x.fault(0) + " at " + x.fault(1));
        }
        return x;
    }

    static SowingHouse busyHouse(String text) {
        SowingHouse x = house(text);
        x.image(2);
        read(x, "pits 0;");
        tape(x, TAPED);
        x.tray(3, 2, 3);
        x.write(3, 1, x.count(1));
        return x;
    }

    /** A tray with these numbers. */
    static void lay(SowingHouse x, int tray, int sort, long... numbers) {
        x.tray(tray, sort, numbers.length);
        for (int i = 0; i < numbers.length; i++) {
            x.write(tray, i, numbers[i]);
        }
    }

    /** All of the board that can be seen by cheap calls; some 25 of the 512 calls that an object has. */
    static String board(SowingHouse x) {
        StringBuilder all = new StringBuilder("counts");
        for (int i = 0; i < 6; i++) {
            all.append(' ').append(x.count(i));
        }
        all.append(" pits");
        int pits = 2 * x.count(1);
        for (int p = 0; p < pits; p++) {
            all.append(' ').append(x.pit(p));
        }
        all.append(" stores ").append(x.store(0)).append(' ').append(x.store(1)).append(" mover ").append(x.mover());
        return all.append(" score ").append(x.score()).append(" place ").append(x.place()).toString();
    }

    private static String told(SowingHouse x) {
        StringBuilder all = new StringBuilder(board(x));
        all.append(" tape ").append(x.count(6)).append(" fault ").append(x.fault(0)).append(' ').append(x.fault(1));
        for (int tray = 0; tray < 4; tray++) {
            try {
                all.append(" tray ").append(x.judge(tray, 0)).append(' ').append(x.judge(tray, 2));
            } catch (IllegalStateException e) {
                all.append(" missing");
            }
        }
        return all.toString();
    }
}
