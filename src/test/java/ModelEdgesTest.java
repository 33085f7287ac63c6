import java.lang.reflect.Method;
import java.lang.reflect.Modifier;
import java.util.Arrays;
import java.util.List;
import java.util.TreeMap;
import java.util.function.Consumer;

/**
 * Every call with all mixes of some numbers about its bounds, on HeelPost and on the second writing of the document, in
 * objects that are new, in the midst of things, and full; what was refused must leave both alike.
 */
public final class ModelEdgesTest {
    private static final int LEAST = Integer.MIN_VALUE, MOST = Integer.MAX_VALUE;
    /** By how many numbers a call takes: the more there are, the fewer are tried for each. */
    private static final int[][] TRIED = {
        {},
        {LEAST, -1, 0, 1, 2, 3, 4, 5, 6, 7, 8, 9, 10, 12, 15, 16, 23, 24, 25, 40, 41, 99, 100, 119, 120, 255, 256, MOST},
        {LEAST, -1, 0, 1, 2, 3, 4, 5, 6, 8, 9, 23, 24, 39, 40, 98, 99, 100, MOST},
        {LEAST, -1, 0, 1, 2, 3, 4, 8, 9, 40, 41, 99, 100, MOST},
        {LEAST, -1, 0, 1, 3, 4, 8, 12, 13, MOST},
        {LEAST, -1, 0, 1, 3, 8, MOST},
        {-1, 0, 1, 2, 4, 12},
    };
    private static final int CALLS = 512, KEPT_FOR_THE_END = 150;

    private static int wrong = 0;
    private static long tried = 0;

    public static void main(String[] args) throws Exception {
        TreeMap<String, Method> calls = new TreeMap<>();
        for (Method m : HeelPost.class.getDeclaredMethods()) {
            if (Modifier.isPublic(m.getModifiers())) {
                calls.put(m.getName(), m);
            }
        }
        List<Consumer<Pair>> made = List.of(p -> { }, ModelEdgesTest::midway, ModelEdgesTest::full);
        for (Consumer<Pair> each : made) {
            for (Method m : calls.values()) {
                allWays(each, m);
            }
        }
        System.out.println(tried + " calls");
        System.out.println(wrong == 0 ? "all answers are as due" : wrong + " answers are not as due");
        if (wrong != 0) {
            System.exit(1);
        }
    }

    private static void midway(Pair p) {
        p.tell("t4,6;w0,3,1;c3,0,0;b0,3,2;");
        p.call("post", 0, 0, 3);
        p.call("post", 1, 3, 1);
        p.call("stay", 2, 1);
        p.call("hours", 2);
        p.call("row", 0, 0, 12);
        p.call("set", 0, 0, 1);
        p.call("row", 1, 1, 40);
        p.call("image", 1);
        p.call("ask", 1, 0);
        p.call("drop", 7);
        p.tell("t1");
        p.call("feed", 't');
    }

    private static void full(Pair p) {
        p.tell("t9,24;w0,8,0;c8,0,0;d0,8,0;m0,4,2;b8,0,0;w4,4,0;");
        for (int i = 0; i < 41; i++) {
            p.call("hours", 24);
        }
        p.call("hours", 15);
        for (int l = 0; l < 4; l++) {
            p.call("post", l, l, 8 - l);
        }
        for (int r = 0; r < 8; r++) {
            p.call("row", r, r % 3, 40);
        }
        p.call("image", 0);
        p.call("image", 1);
        for (int i = 0; i < 120; i++) {
            p.call("feed", 't');
        }
    }

    private static void allWays(Consumer<Pair> made, Method m) {
        int[] numbers = TRIED[m.getParameterCount()];
        int ways = 1;
        for (int i = 0; i < m.getParameterCount(); i++) {
            ways *= numbers.length;
        }
        Pair p = null;
        for (int way = 0; way < ways && wrong < 20; way++) {
            if (p == null) {
                p = new Pair();
                made.accept(p);
            }
            Object[] given = new Object[m.getParameterCount()];
            int rest = way;
            for (int i = 0; i < given.length; i++) {
                given[i] = numbers[rest % numbers.length];
                rest /= numbers.length;
            }
            p.call(m.getName(), given);
            tried++;
            if (p.calls > CALLS - KEPT_FOR_THE_END || way == ways - 1) {
                p.compareAll();
                p = null;
            }
        }
    }

    /** The two writings of the document, to which the same is done. */
    private static final class Pair {
        private final HeelPost x = new HeelPost();
        private final Model m = new Model();
        private int calls;
        private String latest = "";

        void call(String name, Object... given) {
            Class<?>[] types = new Class<?>[given.length];
            Arrays.fill(types, int.class);
            Object got;
            Object want;
            try {
                got = HeelPost.class.getDeclaredMethod(name, types).invoke(x, toInts(given));
                want = Model.class.getDeclaredMethod(name, types).invoke(m, toInts(given));
            } catch (ReflectiveOperationException e) {
                got = e.getCause();
                want = "an answer";
            }
            calls++;
            String call = name + Arrays.toString(given);
            if (!got.equals(want)) {
                wrong++;
                System.out.println(call + " answered " + got + ", due is " + want + "; ahead of it: " + latest);
            }
            latest = call;
        }

        private static Object[] toInts(Object[] given) {
            Object[] ints = new Object[given.length];
            for (int i = 0; i < given.length; i++) {
                ints[i] = given[i] instanceof Character c ? (int) c : given[i];
            }
            return ints;
        }

        void tell(String text) {
            for (char c : text.toCharArray()) {
                call("feed", c);
            }
            call("town");
        }

        void compareAll() {
            for (int what = 0; what <= 7; what++) {
                call("count", what);
                call("trace", what);
            }
            call("status");
            call("fault");
            for (int n = 0; n <= 5; n++) {
                call("person", n, 2);
                call("person", n, 3);
                call("letter", n, 1);
                call("letter", n, 2);
            }
            for (int i = 0; i < 25; i++) {
                call("undo");
            }
            call("count", 3);
            call("count", 4);
            call("count", 5);
            call("restore", 0);
            call("count", 3);
            call("restore", 1);
            call("count", 3);
            for (int r = 0; r <= 7; r++) {
                call("set", r, 0, LEAST + 0x12345678);
                call("drop", r);
            }
        }
    }
}
