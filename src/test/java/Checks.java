import java.io.IOException;
import java.lang.annotation.Retention;
import java.lang.annotation.RetentionPolicy;
import java.lang.reflect.InvocationTargetException;
import java.lang.reflect.Method;
import java.lang.reflect.Modifier;
import java.nio.file.Files;
import java.nio.file.Path;
import java.util.List;
import java.util.TreeMap;

/** What the tests with answers worked out by hand share; a test takes it by extending it. */
abstract class Checks {
    static final int NONE = HeelPost.NONE, BAD = HeelPost.BAD, STATE = HeelPost.STATE, FULL = HeelPost.FULL;
    static final int NULL = -1000011, PLACE = -1000012, KIND = -1000013, SIZE = -1000014, STORE = -1000015;
    static final int LEAST = Integer.MIN_VALUE, MOST = Integer.MAX_VALUE;

    /** By the clock from 0 to 5 he is in 0 0 1 2 3 4. */
    static final String ONE = "t5,6;w0,4,1;";
    /**
     * Where each is, by the clock from 0 to 5:
     * 0 w: 0 0 1 2 3 4; 1 c: 4 3 2 1 0 0; 2 d: 1 1 2 2 3 3; 3 m: 2 1 0 0 0 0, on odd days 2;
     * 4 b: 0 0 0 2 3 3, on odd days 0.
     */
    static final String FIVE = "t5,6;w0,4,1;c4,0,0;d1,3,0;m2,0,0;b0,3,2;";
    /** Nobody ever goes, so a letter stays where it is put. */
    static final String STILL = "t9,4;w0,8,23;";

    private static final Path DOCUMENT = Path.of("../shared/DOC.md");

    private static int wrong = 0;
    /** The test that runs now, as it is told when an answer is wrong. */
    static String test = "";

    /** The words of the document that a test would find broken, as they stand there. */
    @Retention(RetentionPolicy.RUNTIME)
    @interface Says {
        String value();
    }

    /** A call with one of its numbers left open. */
    interface Call {
        long with(int n);
    }

    static void due(String call, long got, long want) {
        if (got != want) {
            fail(call + " answered " + got + ", due is " + want);
        }
    }

    static void fail(String what) {
        wrong++;
        System.out.println(test + ": " + what);
    }

    static void dueOfEach(long want, String call, Call of, int... numbers) {
        for (int n : numbers) {
            due(call + " with " + n, of.with(n), want);
        }
    }

    /** BAD one below the least and one above the greatest, and as far off as can be; at both of them not. */
    static void bounds(String call, int least, int most, Call of) {
        dueOfEach(BAD, call, of, LEAST, least - 1, most + 1, MOST);
        for (int n : new int[] {least, most}) {
            if (of.with(n) == BAD) {
                fail(call + " with " + n + " is BAD");
            }
        }
    }

    static void feed(HeelPost x, String text) {
        for (int i = 0; i < text.length(); i++) {
            x.feed(text.charAt(i));
        }
    }

    static int tell(HeelPost x, String text) {
        feed(x, text);
        return x.town();
    }

    static HeelPost in(String text) {
        HeelPost x = new HeelPost();
        if (tell(x, text) < 1) {
            fail("the town " + text + " was not read");
        }
        return x;
    }

    /** Letter 0 from lane 0 for a goal. */
    static HeelPost sent(String town, int goal) {
        HeelPost x = in(town);
        x.post(0, 0, goal);
        return x;
    }

    /** What an ask gives, and the numbers of the bodies that it leaves in the trace. */
    static void asked(HeelPost x, int one, int what, int answer, int... trace) {
        due("ask(" + one + ", " + what + ")", x.ask(one, what), answer);
        for (int i = 0; i < trace.length; i++) {
            due("trace(" + i + ") of ask(" + one + ", " + what + ")", x.trace(i), trace[i]);
        }
        due("no more of ask(" + one + ", " + what + ")", x.trace(trace.length), NONE);
    }

    static void fill(HeelPost x, int row, int... items) {
        x.row(row, 0, items.length);
        for (int i = 0; i < items.length; i++) {
            x.set(row, i, items[i]);
        }
    }

    /** An item from 0 to 8, read by the lane of a letter that stays; the town must be STILL. */
    static int item(HeelPost x, int row, int i) {
        for (int v = 0; v < 9; v++) {
            x.post(0, v, v);
            if (x.missing(0, row, i, 1) >= 64) {
                return v;
            }
        }
        return NONE;
    }

    /** All tests of a class that say what they are of, by their names; each by itself, so one that ends badly is told. */
    static void runSaid(Class<? extends Checks> tests) throws Exception {
        String document = documentInOneLine();
        TreeMap<String, Method> byName = saying(tests);
        for (Method m : byName.values()) {
            test = m.getName();
            String said = m.getAnnotation(Says.class).value();
            if (!document.isEmpty() && !document.contains(said)) {
                fail("the document does not say: " + said);
            }
            try {
                m.setAccessible(true);
                m.invoke(null);
            } catch (InvocationTargetException e) {
                fail("ended with " + e.getCause());
            }
        }
        System.out.println(byName.size() + " tests");
    }

    static TreeMap<String, Method> saying(Class<? extends Checks> tests) {
        TreeMap<String, Method> byName = new TreeMap<>();
        for (Method m : tests.getDeclaredMethods()) {
            if (Modifier.isStatic(m.getModifiers()) && m.isAnnotationPresent(Says.class)) {
                byName.put(m.getName(), m);
            }
        }
        return byName;
    }

    /** The document; nothing, if it is not to be found. */
    private static String document() throws IOException {
        return Files.isReadable(DOCUMENT) ? Files.readString(DOCUMENT) : "";
    }

    static String documentInOneLine() throws IOException {
        return document().replaceAll("\\s+", " ");
    }

    /** The lines of the document's face, between the class's first and its last; none, if it is not to be found. */
    static List<String> faceOfTheDocument() throws IOException {
        String document = document();
        if (document.isEmpty()) {
            return List.of();
        }
        int from = document.indexOf("public final class HeelPost {\n");
        int to = document.indexOf("\n}", Math.max(from, 0));
        if (from < 0 || to < 0) {
            throw new IllegalStateException("the document shows no face");
        }
        return document.substring(from, to).lines().skip(1).map(String::trim).toList();
    }

    static void end() {
        System.out.println(wrong == 0 ? "all answers are as due" : wrong + " answers are not as due");
        if (wrong != 0) {
            System.exit(1);
        }
    }
}
