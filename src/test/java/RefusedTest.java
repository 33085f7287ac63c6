import java.lang.reflect.InvocationTargetException;
import java.lang.reflect.Method;
import java.lang.reflect.Modifier;
import java.util.ArrayList;
import java.util.Arrays;
import java.util.List;
import java.util.function.Supplier;

/**
 * "Terms": what is refused, or found, changes nothing but status(). Each call is made on one of two objects that are
 * alike; then all that can be asked is asked of both. And rule 7 of the language: no call ever throws.
 */
public final class RefusedTest extends Checks {
    private static final String TOWN = "t9,24;w0,8,0;c8,0,0;d0,8,0;m0,4,2;b8,0,0;w4,4,0;";

    public static void main(String[] args) throws Exception {
        runSaid(RefusedTest.class);
        test = "rule 7 of LANGUAGE.md";
        noCallThrows();
        end();
    }

    private interface Asked {
        long of(HeelPost x);
    }

    private record Refused(String call, long want, Asked asked) {
    }

    // ---------------------------------------------------------------- objects in which much has been done

    private static HeelPost untold() {
        HeelPost x = new HeelPost();
        fill(x, 0, 1, 2, 3);
        feed(x, "t5");
        return x;
    }

    /** Letters 0 to 2 are out, 2 is there; 5 is at home; image 0 is kept; rows 0 (bytes) and 1 (ints) are there. */
    private static HeelPost midway() {
        HeelPost x = in(TOWN);
        x.post(0, 0, 8);
        x.post(1, 8, 0);
        x.post(2, 4, 4);
        x.hours(3);
        x.stay(5, 1);
        x.begin(3, 1);
        fill(x, 0, 1, 2, 3);
        x.row(1, 2, 2);
        x.set(1, 1, 5);
        x.image(0);
        x.hours(2);
        x.ask(1, 0);
        tell(x, "t1");
        feed(x, "t5");
        x.set(0, 3, 0);
        return x;
    }

    /** Hour 999, a full tape, as many acts as are kept, all letters out, all people at home. */
    private static HeelPost full() {
        HeelPost x = in(TOWN);
        for (int i = 0; i < 41; i++) {
            x.hours(24);
        }
        x.hours(15);
        for (int p = 0; p < 6; p++) {
            x.stay(p, 1);
        }
        for (int l = 0; l < 4; l++) {
            x.post(l, l, 8 - l);
        }
        for (int i = 0; i < 120; i++) {
            x.feed("t9,24;".charAt(i % 6));
        }
        return x;
    }

    // ---------------------------------------------------------------- all that can be asked

    /** All answers of an object but status(); it is used up by this. */
    private static List<Long> all(HeelPost x) {
        List<Long> answers = new ArrayList<>();
        whole(x, answers);
        for (int i = 0; i <= 6; i++) {
            answers.add((long) x.trace(i));
        }
        long left = 0;
        for (int i = 0; i < 25 && left != STATE; i++) {
            left = x.undo();
            answers.add(left);
            answers.add((long) x.count(3));
            answers.add((long) x.count(4) << 8 | x.count(5));
        }
        whole(x, answers);
        for (int k = 0; k <= 1; k++) {
            answers.add((long) x.restore(k));
            answers.add((long) x.count(3));
        }
        answers.add((long) x.town());
        answers.add((long) x.fault());
        tell(x, STILL);
        for (int row = 0; row <= 1; row++) {
            for (int i = 0; i < 3; i++) {
                answers.add((long) item(x, row, i));
            }
        }
        for (int row = 0; row <= 7; row++) {
            answers.add((long) x.set(row, 0, 0x12345678));
            answers.add((long) x.drop(row));
        }
        return answers;
    }

    private static void whole(HeelPost x, List<Long> answers) {
        for (int what = 0; what <= 7; what++) {
            answers.add((long) x.count(what));
        }
        for (int p = 0; p < 6; p++) {
            answers.add((long) x.person(p, 2));
            answers.add((long) x.person(p, 3));
        }
        for (int l = 0; l < 4; l++) {
            answers.add((long) x.letter(l, 1));
            answers.add((long) x.letter(l, 2));
        }
        answers.add((long) x.fault());
    }

    // ---------------------------------------------------------------- what is refused

    private static final List<Refused> BAD_EVERYWHERE = List.of(
        new Refused("row", BAD, x -> x.row(8, 0, 1)), new Refused("row's lane", BAD, x -> x.row(0, 3, 1)),
        new Refused("row's n", BAD, x -> x.row(0, 0, 41)), new Refused("set", BAD, x -> x.set(8, 0, 1)),
        new Refused("copy", BAD, x -> x.copy(0, 0, 8, 0, 1)), new Refused("drop", BAD, x -> x.drop(8)),
        new Refused("feed", BAD, x -> x.feed(256)), new Refused("post", BAD, x -> x.post(4, 0, 1)),
        new Refused("post's lane", BAD, x -> x.post(0, 9, 1)), new Refused("post's goal", BAD, x -> x.post(0, 0, 9)),
        new Refused("callBack", BAD, x -> x.callBack(4)), new Refused("begin", BAD, x -> x.begin(6, 5)),
        new Refused("begin's n", BAD, x -> x.begin(0, 24)), new Refused("stay", BAD, x -> x.stay(6, 1)),
        new Refused("stay's home", BAD, x -> x.stay(0, 2)), new Refused("person", BAD, x -> x.person(0, 6)),
        new Refused("letter", BAD, x -> x.letter(0, 4)), new Refused("lane", BAD, x -> x.lane(9)),
        new Refused("ahead", BAD, x -> x.ahead(0, 100)), new Refused("letterAhead", BAD, x -> x.letterAhead(0, 100)),
        new Refused("arrives", BAD, x -> x.arrives(4)), new Refused("carriers", BAD, x -> x.carriers(0, 100)),
        new Refused("bestHour", BAD, x -> x.bestHour(1, 1, 0)), new Refused("spots", BAD, x -> x.spots(0, 100)),
        new Refused("crew", BAD, x -> x.crew(0, 100, 0)), new Refused("needed", BAD, x -> x.needed(0, 100)),
        new Refused("meet", BAD, x -> x.meet(1, 1)), new Refused("answer", BAD, x -> x.answer(4)),
        new Refused("who", BAD, x -> x.who(6, 0, 0, 0, 0, 1)), new Refused("missing", BAD, x -> x.missing(0, 8, 0, 1)),
        new Refused("goals", BAD, x -> x.goals(0, 0, 0, 13)), new Refused("sick", BAD, x -> x.sick(0, 0, 11, 0)),
        new Refused("image", BAD, x -> x.image(2)), new Refused("restore", BAD, x -> x.restore(2)),
        new Refused("kind", BAD, x -> x.kind(6)), new Refused("as", BAD, x -> x.as(0, 6)),
        new Refused("ask", BAD, x -> x.ask(0, 2)), new Refused("ask of nobody", BAD, x -> x.ask(6, 0)),
        new Refused("count", BAD, x -> x.count(8)));

    private static void changesNothing(String where, Supplier<HeelPost> made, Refused refused) {
        HeelPost x = made.get();
        int status = x.status();
        due(where + ", " + refused.call, refused.asked.of(x), refused.want);
        boolean found = refused.want <= NULL && refused.want >= STORE;
        due(where + ", status behind " + refused.call, x.status(), found ? -1000010 - refused.want : status);
        if (!all(x).equals(all(made.get()))) {
            fail(where + ", " + refused.call + " changes what it must not");
        }
    }

    @Says("What is refused, or found, changes nothing but status().")
    static void terms_whatIsBadChangesNothing() {
        for (Refused refused : BAD_EVERYWHERE) {
            changesNothing("without a town", RefusedTest::untold, refused);
            changesNothing("midway", RefusedTest::midway, refused);
            changesNothing("full", RefusedTest::full, refused);
        }
    }

    @Says("What is refused, or found, changes nothing but status().")
    static void terms_whatIsStateChangesNothing() {
        List<Refused> withoutATown = List.of(
            new Refused("undo", STATE, x -> x.undo()), new Refused("hours", STATE, x -> x.hours(1)),
            new Refused("cutOff", STATE, x -> x.cutOff()), new Refused("busy", STATE, x -> x.busy(1, 0)),
            new Refused("drawn", STATE, x -> x.drawn(1, 1, 0)), new Refused("image", STATE, x -> x.image(0)),
            new Refused("restore", STATE, x -> x.restore(0)));
        for (Refused refused : withoutATown) {
            changesNothing("without a town", RefusedTest::untold, refused);
        }
        List<Refused> midway = List.of(
            new Refused("callBack", STATE, x -> x.callBack(3)), new Refused("stay", STATE, x -> x.stay(5, 1)),
            new Refused("stay no more", STATE, x -> x.stay(0, 0)), new Refused("letterAhead", STATE, x -> x.letterAhead(3, 9)),
            new Refused("arrives", STATE, x -> x.arrives(3)), new Refused("carriers", STATE, x -> x.carriers(3, 9)),
            new Refused("crew", STATE, x -> x.crew(3, 9, 0)), new Refused("needed", STATE, x -> x.needed(3, 9)),
            new Refused("answer", STATE, x -> x.answer(3)), new Refused("who", STATE, x -> x.who(0, 0, 3, 0, 0, 1)),
            new Refused("missing", STATE, x -> x.missing(3, 7, 0, 1)), new Refused("goals", STATE, x -> x.goals(3, 0, 9, 1)),
            new Refused("sick", STATE, x -> x.sick(3, 9, 1, 0)), new Refused("restore", STATE, x -> x.restore(1)));
        for (Refused refused : midway) {
            changesNothing("midway", RefusedTest::midway, refused);
        }
    }

    @Says("What is refused, or found, changes nothing but status().")
    static void terms_whatIsFullChangesNothing() {
        changesNothing("full", RefusedTest::full, new Refused("feed", FULL, x -> x.feed('t')));
        changesNothing("full", RefusedTest::full, new Refused("one hour", FULL, x -> x.hours(1)));
        changesNothing("full", RefusedTest::full, new Refused("24 hours", FULL, x -> x.hours(24)));
    }

    @Says("What is refused, or found, changes nothing but status().")
    static void terms_whatIsFoundChangesNothingButStatus() {
        List<Refused> found = List.of(
            new Refused("row", SIZE, x -> x.row(0, 1, -1)), new Refused("row", SIZE, x -> x.row(7, 0, LEAST)),
            new Refused("set", NULL, x -> x.set(7, 0, 1)), new Refused("set", PLACE, x -> x.set(0, 3, 1)),
            new Refused("set", PLACE, x -> x.set(0, -1, 1)), new Refused("copy", NULL, x -> x.copy(0, 0, 7, 0, 1)),
            new Refused("copy", STORE, x -> x.copy(0, 0, 1, 0, 1)), new Refused("copy", PLACE, x -> x.copy(0, 0, 0, 1, 3)),
            new Refused("drop", NULL, x -> x.drop(7)), new Refused("as", KIND, x -> x.as(0, 2)),
            new Refused("who", NULL, x -> x.who(0, 0, 0, 7, 0, 1)), new Refused("who", PLACE, x -> x.who(0, 1, 0, 0, 3, 1)),
            new Refused("missing", NULL, x -> x.missing(0, 7, 0, 1)), new Refused("missing", PLACE, x -> x.missing(0, 0, 0, 4)),
            new Refused("goals", NULL, x -> x.goals(0, 7, 0, 1)), new Refused("goals", PLACE, x -> x.goals(0, 0, -1, 1)));
        for (Refused refused : found) {
            changesNothing("midway", RefusedTest::midway, refused);
        }
    }

    /** That all() would tell a change is shown by calls that make one. */
    @Says("What is refused, or found, changes nothing but status().")
    static void terms_whatIsDoneIsSeen() {
        List<Asked> done = List.of(
            x -> x.row(2, 0, 0), x -> x.row(1, 1, 2), x -> x.set(0, 2, 4), x -> x.copy(0, 0, 0, 1, 1), x -> x.drop(0),
            x -> x.feed('x'), x -> x.town(), x -> x.undo(), x -> x.hours(1), x -> x.post(3, 0, 0), x -> x.callBack(2),
            x -> x.begin(5, 9), x -> x.begin(0, 0), x -> x.stay(4, 1), x -> x.image(0), x -> x.image(1),
            x -> x.restore(0), x -> x.ask(0, 0));
        for (int i = 0; i < done.size(); i++) {
            HeelPost x = midway();
            done.get(i).of(x);
            if (all(x).equals(all(midway()))) {
                fail("call " + i + " is not seen");
            }
        }
    }

    // ---------------------------------------------------------------- rule 7

    /** Each call with the least and the greatest ints and those about 0, all ways, in each of the objects above. */
    private static void noCallThrows() throws Exception {
        int[] numbers = {LEAST, -1, 0, 1, 40, MOST};
        List<Supplier<HeelPost>> made =
            List.of(HeelPost::new, RefusedTest::untold, RefusedTest::midway, RefusedTest::full);
        for (Supplier<HeelPost> each : made) {
            for (Method m : HeelPost.class.getDeclaredMethods()) {
                if (Modifier.isPublic(m.getModifiers())) {
                    callAllWays(each, m, numbers);
                }
            }
        }
    }

    private static void callAllWays(Supplier<HeelPost> made, Method m, int[] numbers) throws Exception {
        int ways = 1;
        for (int i = 0; i < m.getParameterCount(); i++) {
            ways *= numbers.length;
        }
        HeelPost x = null;
        for (int way = 0; way < ways; way++) {
            x = way % 200 == 0 ? made.get() : x;
            Object[] given = new Object[m.getParameterCount()];
            int rest = way;
            for (int i = 0; i < given.length; i++) {
                given[i] = numbers[rest % numbers.length];
                rest /= numbers.length;
            }
            try {
                m.invoke(x, given);
            } catch (InvocationTargetException e) {
                fail(m.getName() + Arrays.toString(given) + " threw " + e.getCause());
            }
        }
    }
}
