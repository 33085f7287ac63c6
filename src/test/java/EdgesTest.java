import java.lang.reflect.Method;

/**
 * The boundary cases that "Promise 1" to "Promise 42" name, a test for each; the name says which promise it is of, and
 * with it stand the words that would be broken. Answers were worked out by hand from the document.
 */
public final class EdgesTest extends Checks {
    private static final String SIX = "t9,24;w0,8,0;c0,8,0;d0,8,0;m0,8,0;b0,8,0;w0,8,23;";

    public static void main(String[] args) throws Exception {
        runSaid(EdgesTest.class);
        everyPromiseIsTested();
        end();
    }

    private static void everyPromiseIsTested() {
        for (int promise = 1; promise <= 42; promise++) {
            String start = "promise" + (promise < 10 ? "0" : "") + promise + "_";
            boolean found = false;
            for (Method m : EdgesTest.class.getDeclaredMethods()) {
                found |= m.getName().startsWith(start) && m.isAnnotationPresent(Says.class);
            }
            if (!found) {
                fail("no test is of promise " + promise);
            }
        }
    }

    // ---------------------------------------------------------------- 1 to 8: rows, what is told

    @Says("`HeelPost()`: No TOWN.")
    static void promise01_nothingIsThere() {
        HeelPost x = new HeelPost();
        dueOfEach(0, "count", what -> x.count(what), 0, 1, 2, 3, 4, 5, 6, 7);
        due("fault", x.fault(), 0);
        due("status", x.status(), 0);
        due("trace", x.trace(0), NONE);
        due("undo", x.undo(), STATE);
        due("restore", x.restore(0), STATE);
        due("restore", x.restore(1), STATE);
        due("town", x.town(), -1000100);
    }

    @Says("`HeelPost()`: No TOWN.")
    static void promise01_noPersonNoLaneNoLetter() {
        HeelPost x = new HeelPost();
        x.row(0, 0, 1);
        due("post", x.post(0, 0, 0), BAD);
        due("callBack", x.callBack(0), BAD);
        due("begin", x.begin(0, 0), BAD);
        due("stay", x.stay(0, 1), BAD);
        due("stay", x.stay(0, 0), BAD);
        dueOfEach(BAD, "person", what -> x.person(0, what), 0, 1, 2, 3, 4, 5);
        dueOfEach(BAD, "letter", what -> x.letter(0, what), 0, 1, 2, 3);
        due("lane", x.lane(0), BAD);
        due("ahead", x.ahead(0, 0), BAD);
        due("letterAhead", x.letterAhead(0, 0), BAD);
        due("arrives", x.arrives(0), BAD);
        due("carriers", x.carriers(0, 1), BAD);
        due("bestHour", x.bestHour(0, 1, 0), BAD);
        due("spots", x.spots(0, 1), BAD);
        due("crew", x.crew(0, 1, 0), BAD);
        due("needed", x.needed(0, 1), BAD);
        due("meet", x.meet(0, 1), BAD);
        due("answer", x.answer(0), BAD);
        due("who", x.who(0, 0, 0, 0, 0, 1), BAD);
        due("missing", x.missing(0, 0, 0, 1), BAD);
        due("goals", x.goals(0, 0, 0, 1), BAD);
        due("sick", x.sick(0, 0, 0, 0), BAD);
        due("kind", x.kind(0), BAD);
        due("as", x.as(0, 0), BAD);
        due("ask", x.ask(0, 0), BAD);
        due("no ask was made", x.trace(0), NONE);
        due("no act was made", x.count(6), 0);
    }

    @Says("`HeelPost()`: No TOWN.")
    static void promise01_statesWithoutATown() {
        HeelPost x = new HeelPost();
        due("hours", x.hours(1), STATE);
        due("cutOff", x.cutOff(), STATE);
        due("busy", x.busy(1, 0), STATE);
        due("drawn", x.drawn(0, 1, 0), STATE);
        due("image", x.image(0), STATE);
        due("image", x.image(1), STATE);
    }

    @Says("A ROW of a LANE with n ITEMS, in place of what is there: n.")
    static void promise02_inPlaceOfWhatIsThere() {
        HeelPost x = in(STILL);
        x.row(0, 0, 3);
        x.set(0, 0, 7);
        due("shorter", x.row(0, 2, 1), 1);
        due("of the other lane", x.set(0, 0, MOST), MOST);
        due("one place alone", x.set(0, 1, 0), PLACE);
        due("one row alone", x.count(0), 1);
        due("none", x.row(0, 0, 0), 0);
        due("longer", x.row(0, 0, 40), 40);
        due("all are 0", item(x, 0, 0), 0);
    }

    @Says("BAD: ROW, LANE, n above 40; SIZE.")
    static void promise02_boundsOfARow() {
        HeelPost x = new HeelPost();
        bounds("row", 0, 7, row -> x.row(row, 0, 1));
        bounds("lane", 0, 2, lane -> x.row(0, lane, 1));
        dueOfEach(BAD, "n", n -> x.row(1, 0, n), 41, 42, MOST);
        due("40", x.row(1, 0, 40), 40);
        due("0", x.row(1, 0, 0), 0);
        due("the first, the second, the last", x.count(0), 3);
        for (int row = 0; row <= 7; row++) {
            due("row " + row, x.row(row, row % 3, 40), 40);
        }
        due("all eight", x.count(0), 8);
    }

    @Says("n above 40; SIZE.")
    static void promise02_fewerThanNone() {
        HeelPost x = new HeelPost();
        x.row(0, 1, 5);
        dueOfEach(SIZE, "n", n -> x.row(0, 0, n), -1, -2, -41, LEAST);
        due("status", x.status(), 4);
        due("the row stays", x.set(0, 4, 40000), -25536);
        due("a row that is missing", x.row(1, 0, -1), SIZE);
        due("is missing", x.drop(1), NULL);
    }

    @Says("ITEM i becomes v, its lowest bits, as many as the LANE has: what it is then.")
    static void promise03_lowestBitsOfALane() {
        HeelPost x = new HeelPost();
        x.row(0, 0, 1);
        x.row(1, 1, 1);
        x.row(2, 2, 1);
        int[][] bytes = {{127, 127}, {128, -128}, {255, -1}, {256, 0}, {-128, -128}, {-129, 127}, {MOST, -1}, {LEAST, 0}};
        for (int[] v : bytes) {
            due("a byte of " + v[0], x.set(0, 0, v[0]), v[1]);
        }
        int[][] shorts = {{32767, 32767}, {32768, -32768}, {65535, -1}, {65536, 0}, {-32768, -32768}, {-32769, 32767},
            {MOST, -1}, {LEAST, 0}};
        for (int[] v : shorts) {
            due("a short of " + v[0], x.set(1, 0, v[0]), v[1]);
        }
        for (int v : new int[] {0, -1, 65536, MOST, LEAST}) {
            due("an int of " + v, x.set(2, 0, v), v);
        }
    }

    @Says("BAD: ROW; NULL; PLACE.")
    static void promise03_boundsOfAPlace() {
        HeelPost x = in(STILL);
        x.row(0, 0, 3);
        x.row(1, 0, 0);
        x.row(2, 0, 40);
        dueOfEach(BAD, "row", row -> x.set(row, 0, 0), LEAST, -1, 8, MOST);
        due("the last row is missing", x.set(7, 0, 0), NULL);
        due("a missing row has no place either", x.set(7, -1, 0), NULL);
        dueOfEach(PLACE, "i", i -> x.set(0, i, 9), LEAST, -1, 3, 4, 40, MOST);
        due("the first", x.set(0, 0, 9), 9);
        due("the last", x.set(0, 2, 8), 8);
        dueOfEach(PLACE, "i of none", i -> x.set(1, i, 9), LEAST, -1, 0, 1, MOST);
        dueOfEach(PLACE, "i of 40", i -> x.set(2, i, 9), -1, 40, MOST);
        due("the last of 40", x.set(2, 39, 9), 9);
        due("the one between stays", item(x, 0, 1), 0);
        due("the last is set", item(x, 0, 2), 8);
    }

    @Says("n ITEMS of a from i on come to b from j on, as they were ahead: n.")
    static void promise04_asTheyWereAhead() {
        HeelPost x = in(STILL);
        fill(x, 0, 1, 2, 3, 4);
        due("a step on", x.copy(0, 0, 0, 1, 3), 3);
        due("0", item(x, 0, 0), 1);
        due("1", item(x, 0, 1), 1);
        due("2", item(x, 0, 2), 2);
        due("3", item(x, 0, 3), 3);
        fill(x, 0, 1, 2, 3, 4);
        due("a step back", x.copy(0, 1, 0, 0, 3), 3);
        due("0", item(x, 0, 0), 2);
        due("2", item(x, 0, 2), 4);
        due("3", item(x, 0, 3), 4);
        due("onto itself", x.copy(0, 0, 0, 0, 4), 4);
        due("0", item(x, 0, 0), 2);
    }

    @Says("n ITEMS of a from i on come to b from j on")
    static void promise04_noneAndAll() {
        HeelPost x = in(STILL);
        x.row(0, 0, 40);
        x.row(1, 0, 40);
        x.row(2, 0, 0);
        x.set(0, 0, 3);
        x.set(0, 39, 5);
        due("none, at the ends", x.copy(0, 40, 1, 40, 0), 0);
        due("none, of none to none", x.copy(2, 0, 2, 0, 0), 0);
        due("none came", item(x, 1, 39), 0);
        due("all", x.copy(0, 0, 1, 0, 40), 40);
        due("the first", item(x, 1, 0), 3);
        due("the last", item(x, 1, 39), 5);
        due("one to the other end", x.copy(0, 39, 1, 0, 1), 1);
        due("the first", item(x, 1, 0), 5);
    }

    @Says("BAD: ROWS; NULL; STORE; PLACE (i, j, n below 0, or beyond an end).")
    static void promise04_rowsMissingRowsAndLanes() {
        HeelPost x = new HeelPost();
        x.row(0, 0, 2);
        x.row(1, 1, 2);
        x.row(2, 2, 2);
        dueOfEach(BAD, "a", a -> x.copy(a, 0, 0, 0, 1), LEAST, -1, 8, MOST);
        dueOfEach(BAD, "b", b -> x.copy(0, 0, b, 0, 1), LEAST, -1, 8, MOST);
        due("a is missing", x.copy(7, 0, 0, 0, 1), NULL);
        due("b is missing", x.copy(0, 0, 7, 0, 1), NULL);
        due("both are missing", x.copy(7, 0, 7, 0, 0), NULL);
        due("bytes to shorts", x.copy(0, 0, 1, 0, 1), STORE);
        due("shorts to bytes", x.copy(1, 0, 0, 0, 1), STORE);
        due("shorts to ints", x.copy(1, 0, 2, 0, 1), STORE);
        due("none of two lanes", x.copy(0, 0, 2, 0, 0), STORE);
        due("status", x.status(), 5);
        due("one lane", x.copy(2, 0, 2, 1, 1), 1);
        due("status", x.status(), 0);
    }

    @Says("PLACE (i, j, n below 0, or beyond an end).")
    static void promise04_boundsOfPlaces() {
        HeelPost x = in(STILL);
        fill(x, 0, 1, 2, 3);
        fill(x, 1, 4, 5);
        dueOfEach(PLACE, "i", i -> x.copy(0, i, 1, 0, 1), LEAST, -1, 3, 4, MOST);
        dueOfEach(PLACE, "j", j -> x.copy(0, 0, 1, j, 1), LEAST, -1, 2, 3, MOST);
        dueOfEach(PLACE, "n", n -> x.copy(0, 0, 1, 0, n), LEAST, -1, 3, 4, MOST);
        dueOfEach(PLACE, "n of the other", n -> x.copy(1, 0, 0, 0, n), -1, 3, MOST);
        dueOfEach(PLACE, "i for none", i -> x.copy(0, i, 1, 0, 0), LEAST, -1, 4, MOST);
        dueOfEach(PLACE, "j for none", j -> x.copy(0, 0, 1, j, 0), LEAST, -1, 3, MOST);
        due("i and n beyond an int", x.copy(0, MOST, 1, 0, MOST), PLACE);
        due("j and n beyond an int", x.copy(0, 0, 1, MOST, 1), PLACE);
        due("i and n beyond the least", x.copy(0, LEAST, 1, 0, LEAST), PLACE);
        due("1 to the end", x.copy(0, 1, 1, 0, 2), 2);
        due("one beyond it", x.copy(0, 2, 1, 0, 2), PLACE);
        due("one beyond the other's", x.copy(0, 1, 1, 1, 2), PLACE);
        due("what came first", item(x, 1, 0), 2);
        due("what came last", item(x, 1, 1), 3);
    }

    @Says("A ROW is missing from now on: how many ITEMS it had. BAD; NULL.")
    static void promise05_dropping() {
        HeelPost x = new HeelPost();
        x.row(0, 0, 0);
        x.row(7, 2, 40);
        due("none", x.drop(0), 0);
        due("40", x.drop(7), 40);
        due("again", x.drop(0), NULL);
        due("status", x.status(), 1);
        due("set", x.set(7, 0, 0), NULL);
        due("no row", x.count(0), 0);
        dueOfEach(BAD, "row", row -> x.drop(row), LEAST, -1, 8, MOST);
    }

    @Says("A byte (0 to 255) comes behind the tape: how many it has.")
    static void promise06_boundsOfAByte() {
        HeelPost x = new HeelPost();
        bounds("feed", 0, 255, letter -> x.feed(letter));
        due("two came", x.count(7), 2);
        due("the third", x.feed('a'), 3);
    }

    @Says("BAD; FULL.")
    static void promise06_noRoomOnTheTape() {
        HeelPost x = new HeelPost();
        for (int i = 1; i < 120; i++) {
            x.feed('t');
        }
        due("the last", x.feed('t'), 120);
        dueOfEach(FULL, "no room", letter -> x.feed(letter), 0, 116, 255);
        dueOfEach(BAD, "no byte", letter -> x.feed(letter), LEAST, -1, 256, MOST);
        due("the tape", x.count(7), 120);
        x.town();
        due("room again", x.feed('t'), 1);
    }

    @Says("The tape, empty then, is read: how many PEOPLE there are.")
    static void promise07_theTapeIsEmptyThen() {
        HeelPost x = new HeelPost();
        due("the empty tape", x.town(), -1000100);
        due("one", tell(x, ONE), 1);
        due("tape", x.count(7), 0);
        due("six", tell(x, SIX), 6);
        due("tape", x.count(7), 0);
        due("a fault", tell(x, "t5,6;w0,4,24;"), -1000110);
        due("tape", x.count(7), 0);
        due("the empty tape", x.town(), -1000100);
        due("the town stays", x.count(2), 6);
    }

    @Says("-1000100 less the place of a FAULT: all stays.")
    static void promise07_allStaysBehindAFault() {
        HeelPost x = in(ONE);
        x.post(3, 0, 4);
        x.hours(3);
        x.begin(0, 0);
        x.stay(0, 1);
        x.image(1);
        x.ask(0, 1);
        String[] texts = {"", "x", "t9,24;", "t9,24;b8,0,0", "t9,24;b8,0,0;x"};
        int[] places = {0, 0, 6, 12, 13};
        for (int i = 0; i < texts.length; i++) {
            due("town of " + texts[i], tell(x, texts[i]), -1000100 - places[i]);
            int[] counts = {0, 5, 1, 3, 8, 1, 6, 0};
            for (int what = 0; what <= 7; what++) {
                due("count(" + what + ")", x.count(what), counts[what]);
            }
            due("kind", x.kind(0), 1);
            due("begins", x.person(0, 2), 0);
            due("letter", x.letter(3, 1), 2);
            due("trace", x.trace(0), 21);
        }
        due("acts", x.undo(), 5);
        due("image", x.restore(1), 1);
    }

    @Says("The number of the latest FAULT; 0 before one.")
    static void promise08_theLatestFault() {
        HeelPost x = new HeelPost();
        due("before one", x.fault(), 0);
        tell(x, ONE);
        due("a town without one", x.fault(), 0);
        tell(x, "t1");
        due("2", x.fault(), 2);
        tell(x, "");
        due("1", x.fault(), 1);
        tell(x, "t2,4;" + "w0,1,0;".repeat(7));
        due("3", x.fault(), 3);
        tell(x, ONE);
        due("the latest stays", x.fault(), 3);
        x.feed(256);
        due("a refusal is none", x.fault(), 3);
    }

    // ---------------------------------------------------------------- 9 to 17: what is done

    @Says("The latest ACT is undone: how many can be undone yet. STATE: none.")
    static void promise09_undoing() {
        HeelPost x = new HeelPost();
        due("without a town", x.undo(), STATE);
        tell(x, ONE);
        due("without an act", x.undo(), STATE);
        x.post(0, 0, 4);
        due("the last", x.undo(), 0);
        due("no more", x.undo(), STATE);
        x.hours(24);
        due("of 24", x.undo(), 23);
        due("of 23", x.undo(), 22);
        x.hours(24);
        due("of 24 again", x.undo(), 23);
        due("what is refused is no act", x.hours(25), BAD);
        due("of 23", x.undo(), 22);
    }

    @Says("The latest ACT is undone")
    static void promise09_whatIsUndoneIsNoAct() {
        HeelPost x = in(ONE);
        x.begin(0, 5);
        x.begin(0, 6);
        x.undo();
        x.undo();
        due("none", x.count(6), 0);
        due("begins", x.person(0, 2), 1);
        x.stay(0, 1);
        due("one", x.count(6), 1);
        due("undo", x.undo(), 0);
        due("nobody", x.count(5), 0);
    }

    @Says("n HOURS (1 to 24), an ACT each:")
    static void promise10_boundsOfHours() {
        HeelPost x = in(ONE);
        bounds("hours", 1, 24, n -> x.hours(n));
        due("hour", x.count(3), 25);
        due("acts", x.count(6), 24);
        x.undo();
        due("one hour is one act", x.count(3), 24);
        HeelPost y = in(ONE);
        y.hours(3);
        due("acts", y.count(6), 3);
    }

    @Says("LETTERS (bits) that are OUT, at their GOALS, then.")
    static void promise10_lettersAtTheirGoals() {
        HeelPost x = in("t3,6;w0,2,0;");
        due("none is out", x.hours(1), 0);
        x.undo();
        x.post(0, 0, 1);
        x.post(3, 2, 2);
        due("both", x.hours(1), 9);
        x.callBack(3);
        due("the one that is out", x.hours(1), 1);
        for (int l = 0; l < 4; l++) {
            x.post(l, 1, 1);
        }
        due("all", x.hours(24), 15);
    }

    @Says("BAD; STATE: no TOWN (ahead of BAD); FULL: HOUR would be above 999.")
    static void promise10_above999() {
        HeelPost x = in(ONE);
        for (int i = 0; i < 40; i++) {
            x.hours(24);
        }
        due("960 and 24", x.hours(24), 0);
        dueOfEach(FULL, "984 and", n -> x.hours(n), 16, 17, 24);
        due("hour", x.count(3), 984);
        due("acts", x.count(6), 24);
        due("984 and 15", x.hours(15), 0);
        due("hour", x.count(3), 999);
        dueOfEach(FULL, "999 and", n -> x.hours(n), 1, 24);
        dueOfEach(BAD, "no hours", n -> x.hours(n), LEAST, 0, 25, MOST);
        due("the act before", x.undo(), 23);
        due("hour", x.count(3), 998);
    }

    @Says("A LETTER is posted: which are OUT (bits). BAD.")
    static void promise11_boundsOfWhatIsPosted() {
        HeelPost x = in(ONE);
        bounds("letter", 0, 3, letter -> x.post(letter, 0, 4));
        bounds("lane", 0, 4, lane -> x.post(0, lane, 4));
        bounds("goal", 0, 4, goal -> x.post(0, 0, goal));
        due("acts", x.count(6), 6);
        due("out", x.count(4), 9);
        due("all", x.post(1, 0, 0) | x.post(2, 4, 4), 15);
    }

    @Says("A LETTER is posted: which are OUT (bits).")
    static void promise11_inItsGoalAndInPlaceOfAnother() {
        HeelPost x = in(ONE);
        due("in its goal", x.post(2, 4, 4), 4);
        due("it is there", x.arrives(2), 0);
        due("in its place", x.post(2, 0, 1), 4);
        due("where", x.letter(2, 1), 0);
        due("goal", x.letter(2, 2), 1);
        due("the same again is an act", x.post(2, 0, 1), 4);
        due("acts", x.count(6), 3);
    }

    @Says("A LETTER is called back: where it was. BAD; STATE: it is not OUT.")
    static void promise12_callingBack() {
        HeelPost x = in(ONE);
        x.post(0, 0, 4);
        x.post(3, 4, 4);
        dueOfEach(BAD, "letter", letter -> x.callBack(letter), LEAST, -1, 4, MOST);
        due("not out", x.callBack(1), STATE);
        due("one that is there", x.callBack(3), 4);
        due("again", x.callBack(3), STATE);
        due("the first", x.callBack(0), 0);
        due("none", x.count(4), 0);
        due("acts", x.count(6), 4);
        x.undo();
        due("called back anew", x.callBack(0), 0);
    }

    @Says("BEGINS (0 to 23): what it was. BAD.")
    static void promise13_boundsOfBegins() {
        HeelPost x = in(SIX);
        bounds("begin", 0, 23, n -> x.begin(0, n));
        bounds("person", 0, 5, p -> x.begin(p, 1));
        due("acts", x.count(6), 4);
        due("what it was", x.begin(5, 0), 1);
        due("what it was", x.begin(5, 23), 0);
        due("what it was", x.begin(5, 23), 23);
        due("beyond the hours of a day", in(STILL).begin(0, 4), 23);
    }

    @Says("AT HOME (1), or no more (0): who is (bits). BAD; STATE: it is so.")
    static void promise14_boundsOfStaying() {
        HeelPost x = in(SIX);
        dueOfEach(BAD, "home", home -> x.stay(0, home), LEAST, -1, 2, MOST);
        dueOfEach(BAD, "person", p -> x.stay(p, 1), LEAST, -1, 6, MOST);
        dueOfEach(BAD, "person", p -> x.stay(p, 0), LEAST, -1, 6, MOST);
        due("nobody was", x.count(5), 0);
        due("it is so", x.stay(5, 0), STATE);
        int bits = 0;
        for (int p = 5; p >= 0; p--) {
            bits += 1 << p;
            due("who is", x.stay(p, 1), bits);
            due("it is so", x.stay(p, 1), STATE);
        }
        due("acts", x.count(6), 6);
        for (int p = 0; p <= 5; p++) {
            bits -= 1 << p;
            due("who is", x.stay(p, 0), bits);
            due("it is so", x.stay(p, 0), STATE);
        }
    }

    @Says("Of a PERSON: 0 FROM, 1 TO, 2 BEGINS, 3 where he is, 4 where he will be in the HOUR that comes, 5 whether AT HOME (1, 0). BAD.")
    static void promise15_boundsOfAPerson() {
        HeelPost x = in(SIX);
        for (int each = 0; each <= 5; each++) {
            int what = each;
            bounds("person's " + what, 0, 5, p -> x.person(p, what));
            int p = each;
            bounds("what of " + p, 0, 5, w -> x.person(p, w));
        }
    }

    @Says("4 where he will be in the HOUR that comes, 5 whether AT HOME (1, 0)")
    static void promise15_atTheEndOfADay() {
        HeelPost x = in("t9,4;w8,0,0;m0,8,0;");
        x.hours(3);
        due("where he is", x.person(0, 3), 5);
        due("where he will be", x.person(0, 4), 8);
        due("where she is", x.person(1, 3), 3);
        due("where she will be", x.person(1, 4), 0);
        x.hours(4);
        due("where she is on the odd day", x.person(1, 3), 0);
        due("where she will be on the even", x.person(1, 4), 0);
        x.hours(1);
        due("where she will be", x.person(1, 4), 1);
        x.stay(1, 1);
        due("at home", x.person(1, 4), 0);
        due("at home", x.person(1, 5), 1);
        due("not the other", x.person(0, 5), 0);
    }

    @Says("Of a LETTER (0 to 3): 0 whether OUT (1, 0), 1 where it is, 2 its GOAL, 3 who would carry it in this HOUR (NONE).")
    static void promise16_boundsOfALetter() {
        HeelPost x = in("t5,6;w0,4,0;");
        for (int l = 0; l < 4; l++) {
            x.post(l, 0, 4);
        }
        for (int each = 0; each <= 3; each++) {
            int what = each;
            bounds("letter's " + what, 0, 3, l -> x.letter(l, what));
            int l = each;
            bounds("what of " + l, 0, 3, w -> x.letter(l, w));
        }
        due("whether out", x.letter(3, 0), 1);
        due("who", x.letter(0, 3), 0);
        due("nobody", x.letter(3, 3), NONE);
        x.post(0, 4, 4);
        due("nobody, as it is there", x.letter(0, 3), NONE);
    }

    @Says("BAD: also, but for 0, if it is not OUT.")
    static void promise16_aLetterThatIsNotOut() {
        HeelPost x = in(ONE);
        x.post(1, 0, 4);
        x.callBack(1);
        for (int l = 0; l < 4; l++) {
            due("whether out", x.letter(l, 0), 0);
            due("where", x.letter(l, 1), BAD);
            due("goal", x.letter(l, 2), BAD);
            due("who", x.letter(l, 3), BAD);
            due("nothing told", x.letter(l, 4), BAD);
            due("nothing told", x.letter(l, -1), BAD);
        }
    }

    @Says("PEOPLE (bits) in a LANE. BAD.")
    static void promise17_boundsOfALane() {
        HeelPost x = in(SIX);
        bounds("lane", 0, 8, lane -> x.lane(lane));
        due("all six", x.lane(0), 63);
        due("nobody", x.lane(8), 0);
        x.hours(8);
        due("those who are there", x.lane(8), 1 + 2 + 8 + 16);
        due("the drunkard", x.lane(4), 4);
        due("who has not gone", x.lane(0), 32);
        for (int p = 0; p <= 5; p++) {
            x.stay(p, 1);
        }
        due("all are at home", x.lane(0), 63);
        due("two lanes", in("t2,4;w0,1,0;").lane(2), BAD);
    }

    // ---------------------------------------------------------------- 18 to 36: foretold

    @Says("AHEAD: a PERSON. BAD.")
    static void promise18_boundsOfAhead() {
        HeelPost x = in(SIX);
        bounds("person", 0, 5, p -> x.ahead(p, 0));
        bounds("hours", 0, 99, n -> x.ahead(5, n));
        due("0", x.ahead(0, 0), 0);
        due("99", x.ahead(0, 99), 3);
        x.stay(0, 1);
        due("at home", x.ahead(0, 99), 0);
    }

    /** What a call of a letter refuses: no such letter, and one that is not out; letter 0 is out, 3 is not. */
    private static void refusedOfALetter(String call, HeelPost x, Call of) {
        dueOfEach(BAD, call + " of letter", of, LEAST, -1, 4, MOST);
        due(call + " of one that is not out", of.with(3), STATE);
        if (of.with(0) == STATE || of.with(0) == BAD) {
            fail(call + " of one that is out is refused");
        }
        x.post(3, 0, 0);
        if (of.with(3) == STATE || of.with(3) == BAD) {
            fail(call + " of the last letter is refused");
        }
        x.callBack(3);
        due(call + " of one that was called back", of.with(3), STATE);
    }

    @Says("AHEAD: a LETTER. BAD; STATE.")
    static void promise19_letterAhead() {
        HeelPost x = sent(ONE, 4);
        refusedOfALetter("letterAhead", x, l -> x.letterAhead(l, 0));
        bounds("hours", 0, 99, n -> x.letterAhead(0, n));
        dueOfEach(BAD, "hours of one that is not out", n -> x.letterAhead(1, n), LEAST, -1, 100, MOST);
        due("0", x.letterAhead(0, 0), 0);
        due("4", x.letterAhead(0, 4), 3);
        due("99", x.letterAhead(0, 99), 4);
    }

    @Says("ARRIVES; NONE. BAD; STATE.")
    static void promise20_arrives() {
        HeelPost x = sent(ONE, 4);
        refusedOfALetter("arrives", x, l -> x.arrives(l));
        due("5", x.arrives(0), 5);
        x.post(0, 4, 4);
        due("0", x.arrives(0), 0);
        x.post(0, 4, 1);
        due("by night", x.arrives(0), 6);
        x.post(0, 1, 0);
        due("never", x.arrives(0), NONE);
    }

    @Says("CARRIERS. BAD; STATE.")
    static void promise21_carriers() {
        HeelPost x = sent(ONE, 4);
        refusedOfALetter("carriers", x, l -> x.carriers(l, 1));
        bounds("hours", 1, 99, n -> x.carriers(0, n));
        dueOfEach(BAD, "hours of one that is not out", n -> x.carriers(1, n), LEAST, 0, 100, MOST);
        due("nobody", x.carriers(0, 1), 0);
        due("he", x.carriers(0, 2), 1);
    }

    @Says("POST: k (what = 0), behind how many (1); NONE. BAD: alike, too.")
    static void promise22_boundsOfBestHour() {
        HeelPost x = in(ONE);
        bounds("lane", 0, 4, lane -> x.bestHour(lane, 2, 0));
        bounds("goal", 0, 4, goal -> x.bestHour(2, goal, 0));
        bounds("what", 0, 1, what -> x.bestHour(0, 4, what));
        for (int lane = 0; lane <= 4; lane++) {
            due("alike", x.bestHour(lane, lane, 0), BAD);
            due("alike", x.bestHour(lane, lane, 1), BAD);
        }
        due("never", x.bestHour(1, 0, 0), NONE);
        due("never", x.bestHour(1, 0, 1), NONE);
    }

    @Says("SPOT. BAD.")
    static void promise23_boundsOfSpots() {
        HeelPost x = in(ONE);
        bounds("goal", 0, 4, goal -> x.spots(goal, 1));
        bounds("hours", 1, 99, n -> x.spots(0, n));
        due("the goal alone", x.spots(4, 1), 16);
        due("all", x.spots(4, 99), 31);
    }

    @Says("CUT OFF. STATE: no TOWN.")
    static void promise24_cutOff() {
        HeelPost x = new HeelPost();
        due("no town", x.cutOff(), STATE);
        tell(x, ONE);
        due("none", x.cutOff(), 0);
        x.stay(0, 1);
        due("all", x.cutOff(), 31);
        due("the least town", in("t2,4;w0,0,0;").cutOff(), 3);
        due("all nine", in(STILL).cutOff(), 511);
    }

    @Says("CREW: how many (what = 0), which (1); NONE. BAD; STATE.")
    static void promise25_boundsOfCrew() {
        HeelPost x = sent(ONE, 4);
        refusedOfALetter("crew", x, l -> x.crew(l, 1, 0));
        bounds("hours", 1, 99, n -> x.crew(0, n, 0));
        bounds("what", 0, 1, what -> x.crew(0, 1, what));
        dueOfEach(BAD, "hours of one that is not out", n -> x.crew(1, n, 0), LEAST, 0, 100, MOST);
        dueOfEach(BAD, "what of one that is not out", what -> x.crew(1, 1, what), LEAST, -1, 2, MOST);
        due("not so soon", x.crew(0, 4, 0), NONE);
        due("in time", x.crew(0, 5, 0), 1);
        due("which", x.crew(0, 5, 1), 1);
    }

    @Says("NEEDED. BAD; STATE.")
    static void promise26_boundsOfNeeded() {
        HeelPost x = sent(ONE, 4);
        refusedOfALetter("needed", x, l -> x.needed(l, 1));
        bounds("hours", 1, 99, n -> x.needed(0, n));
        dueOfEach(BAD, "hours of one that is not out", n -> x.needed(1, n), LEAST, 0, 100, MOST);
        due("not so soon", x.needed(0, 4), 0);
        due("in time", x.needed(0, 5), 1);
    }

    @Says("MEET; NONE. BAD: alike, too.")
    static void promise27_boundsOfMeet() {
        HeelPost x = in(SIX);
        bounds("one", 0, 5, p -> x.meet(p, 2));
        bounds("other", 0, 5, p -> x.meet(2, p));
        for (int p = 0; p <= 5; p++) {
            due("alike", x.meet(p, p), BAD);
        }
        due("now", x.meet(0, 5), 0);
        due("never", in("t2,4;w0,0,0;w1,1,0;").meet(0, 1), NONE);
    }

    @Says("ANSWER; NONE. BAD; STATE.")
    static void promise28_boundsOfAnswer() {
        HeelPost x = sent(ONE, 4);
        refusedOfALetter("answer", x, l -> x.answer(l));
        due("by night", x.answer(0), 6);
        x.post(0, 2, 2);
        due("it is there", x.answer(0), 0);
        x.post(0, 1, 0);
        due("no way there", x.answer(0), NONE);
        x.post(0, 0, 3);
        due("no way back", x.answer(0), NONE);
    }

    /** What who, missing and goals find alike: a missing row, no such place; row 0 has 40 items. */
    private static void foundInARow(String call, HeelPost x, Told of) {
        dueOfEach(BAD, call + " of row", row -> of.by(row, 0, 1), LEAST, -1, 8, MOST);
        due(call + " of the last row, which is missing", of.by(7, 0, 1), NULL);
        due("status", x.status(), 1);
        dueOfEach(PLACE, call + " from", i -> of.by(0, i, 1), LEAST, -1, 40, 41, MOST);
        due("status", x.status(), 2);
        dueOfEach(PLACE, call + " of 12 from", i -> of.by(0, i, 12), LEAST, -1, 29, 40, MOST - 11, MOST);
        dueOfEach(0, call + " of the last 12", i -> of.by(0, i, 12) < 0 ? -1 : 0, 0, 28);
        due("status", x.status(), 0);
        due(call + " of the last", of.by(0, 39, 1) < 0 ? -1 : 0, 0);
        x.row(6, 0, 0);
        due(call + " of a row of none", of.by(6, 0, 1), PLACE);
        dueOfEach(BAD, call + " of hours", n -> of.by(0, 0, n), LEAST, -1, 0, 13, MOST);
        due("what is BAD leaves it", x.status(), 2);
    }

    private interface Told {
        long by(int row, int i, int n);
    }

    @Says("BAD: PERSON, which, LETTER, ROW, n; STATE; NULL; PLACE.")
    static void promise29_boundsOfWho() {
        HeelPost x = sent(SIX, 8);
        x.row(0, 0, 40);
        refusedOfALetter("who", x, l -> x.who(0, 0, l, 0, 0, 1));
        bounds("person", 0, 5, p -> x.who(p, 0, 0, 0, 0, 1));
        bounds("which", 0, 1, which -> x.who(0, which, 0, 0, 0, 1));
        foundInARow("kinds", x, (row, i, n) -> x.who(0, 0, 0, row, i, n));
        foundInARow("begins", x, (row, i, n) -> x.who(5, 1, 0, row, i, n));
        dueOfEach(STATE, "not out, of a missing row or no place", i -> x.who(0, 0, 1, 7, i, 1), LEAST, 0, MOST);
    }

    @Says("KINDS (which = 0), BEGINS (1) of a PERSON, n ITEMS of a ROW from i on.")
    static void promise29_byItemsFromTheFirstToTheLast() {
        HeelPost x = sent("t9,24;w0,8,0;", 8);
        x.row(0, 0, 40);
        x.set(0, 0, 2);
        x.set(0, 38, 1);
        x.set(0, 39, 2);
        due("kinds by the first", x.who(0, 0, 0, 0, 0, 1), 32);
        due("kinds by the last two", x.who(0, 0, 0, 0, 38, 2), 2 + 4 + 16);
        due("begins by the last two", x.who(0, 1, 0, 0, 38, 2), 1);
        due("kinds by the last", x.who(0, 0, 0, 0, 39, 1), 32);
        due("begins by the last", x.who(0, 1, 0, 0, 39, 1), 0);
    }

    @Says("MISSING, n ITEMS of a ROW from i on. BAD: LETTER, ROW, n; STATE; NULL; PLACE.")
    static void promise30_boundsOfMissing() {
        HeelPost x = sent(SIX, 8);
        x.row(0, 0, 40);
        refusedOfALetter("missing", x, l -> x.missing(l, 0, 0, 1));
        foundInARow("missing", x, (row, i, n) -> x.missing(0, row, i, n));
        dueOfEach(STATE, "not out, of a missing row or no place", i -> x.missing(1, 7, i, 1), LEAST, 0, MOST);
        x.set(0, 28, 1);
        for (int h = 2; h <= 12; h++) {
            x.set(0, 27 + h, Math.min(h, 8));
        }
        due("by the last 12: as it is, or without any one", x.missing(0, 0, 28, 12), 127);
        x.set(0, 39, 7);
        due("by the 11 before the last", x.missing(0, 0, 28, 11), 127);
        due("not by all 12", x.missing(0, 0, 28, 12), 0);
    }

    @Says("GOALS, n ITEMS of a ROW from i on. BAD: LETTER, ROW, n; STATE; NULL; PLACE.")
    static void promise31_boundsOfGoals() {
        HeelPost x = sent(SIX, 8);
        x.row(0, 0, 40);
        refusedOfALetter("goals", x, l -> x.goals(l, 0, 0, 1));
        foundInARow("goals", x, (row, i, n) -> x.goals(0, row, i, n));
        dueOfEach(STATE, "not out, of a missing row or no place", i -> x.goals(1, 7, i, 1), LEAST, 0, MOST);
        due("where it lies", x.goals(0, 0, 28, 12), 1);
    }

    @Says("BUSY: who (what = 0), how often (1). BAD; STATE: no TOWN (ahead of BAD).")
    static void promise32_boundsOfBusy() {
        HeelPost x = sent(ONE, 4);
        bounds("hours", 1, 99, n -> x.busy(n, 0));
        bounds("what", 0, 1, what -> x.busy(1, what));
        due("who", x.busy(99, 0), 0);
        due("how often", x.busy(99, 1), 4);
        HeelPost y = new HeelPost();
        dueOfEach(STATE, "without a town", n -> y.busy(n, n), LEAST, 0, 1, MOST);
    }

    @Says("SICK: above (what = 0), below (1). BAD; STATE.")
    static void promise33_boundsOfSick() {
        HeelPost x = sent(ONE, 4);
        refusedOfALetter("sick", x, l -> x.sick(l, 0, 0, 0));
        bounds("hours", 0, 99, n -> x.sick(0, n, 1, 0));
        bounds("cases", 0, 10, p -> x.sick(0, 99, p, 0));
        bounds("what", 0, 1, what -> x.sick(0, 99, 1, what));
        dueOfEach(BAD, "hours of one that is not out", n -> x.sick(1, n, 1, 0), LEAST, -1, 100, MOST);
        dueOfEach(BAD, "cases of one that is not out", p -> x.sick(1, 1, p, 0), LEAST, -1, 11, MOST);
        dueOfEach(BAD, "what of one that is not out", what -> x.sick(1, 1, 1, what), LEAST, -1, 2, MOST);
        due("above", x.sick(0, 99, 1, 0), 9);
        due("below", x.sick(0, 99, 1, 1), 10);
    }

    @Says("WEEKS by a SEED (1 to 999999): how many (what = 0), how often (1). BAD; STATE: no TOWN (ahead of BAD).")
    static void promise34_boundsOfDrawn() {
        HeelPost x = sent(ONE, 0);
        bounds("hours", 0, 99, n -> x.drawn(n, 1, 0));
        bounds("seed", 1, 999999, seed -> x.drawn(0, seed, 0));
        bounds("what", 0, 1, what -> x.drawn(0, 1, what));
        due("it is there", x.drawn(0, 999999, 0), 1);
        HeelPost y = new HeelPost();
        dueOfEach(STATE, "without a town", n -> y.drawn(n, n, n), LEAST, 0, 1, MOST);
    }

    @Says("An IMAGE (0, 1) is kept of the TOWN: 1. BAD; STATE: no TOWN.")
    static void promise35_boundsOfAnImage() {
        HeelPost x = new HeelPost();
        dueOfEach(BAD, "image without a town", k -> x.image(k), LEAST, -1, 2, MOST);
        dueOfEach(STATE, "image without a town", k -> x.image(k), 0, 1);
        tell(x, ONE);
        bounds("image", 0, 1, k -> x.image(k));
        due("no act", x.count(6), 0);
        x.hours(1);
        due("again", x.image(0), 1);
        x.hours(1);
        due("the acts stay", x.count(6), 2);
        x.restore(0);
        due("the later one", x.count(3), 1);
        x.restore(1);
        due("the other", x.count(3), 0);
    }

    @Says("The TOWN is as an IMAGE kept it (no ACT can be undone then): 1. BAD; STATE: none was kept.")
    static void promise36_boundsOfRestoring() {
        HeelPost x = in(ONE);
        dueOfEach(BAD, "restore", k -> x.restore(k), LEAST, -1, 2, MOST);
        dueOfEach(STATE, "restore where none was kept", k -> x.restore(k), 0, 1);
        x.image(1);
        due("the other was not kept", x.restore(0), STATE);
        x.post(0, 0, 4);
        x.hours(2);
        due("acts", x.count(6), 3);
        due("what is refused leaves the acts", x.restore(2), BAD);
        due("acts", x.count(6), 3);
        due("restore", x.restore(1), 1);
        due("no act", x.count(6), 0);
        due("undo", x.undo(), STATE);
        due("no letter", x.count(4), 0);
        due("hour", x.count(3), 0);
        due("again", x.restore(1), 1);
    }

    @Says("The TOWN is as an IMAGE kept it")
    static void promise36_whatAnImageKeeps() {
        HeelPost x = in(SIX);
        x.post(3, 0, 8);
        x.stay(5, 1);
        x.begin(4, 23);
        x.hours(5);
        x.image(0);
        x.callBack(3);
        x.stay(5, 0);
        x.begin(4, 0);
        tell(x, "t2,4;d1,0,0;");
        due("restore", x.restore(0), 1);
        int[] counts = {0, 9, 6, 5, 8, 32, 0, 0};
        for (int what = 0; what <= 7; what++) {
            due("count(" + what + ")", x.count(what), counts[what]);
        }
        due("where", x.letter(3, 1), 5);
        due("goal", x.letter(3, 2), 8);
        due("begins", x.person(4, 2), 23);
        due("kind", x.kind(4), 5);
        due("to", x.person(5, 1), 8);
        due("days of 24 hours", x.ahead(0, 19), 0);
        due("and no less", x.ahead(0, 18), 8);
        x.hours(1);
        x.restore(0);
        due("what is done then does not change it", x.count(3), 5);
    }

    // ---------------------------------------------------------------- 37 to 42: asked

    @Says("The KIND of a PERSON, as told (1 to 5). BAD.")
    static void promise37_boundsOfAKind() {
        HeelPost x = in(SIX);
        bounds("kind", 0, 5, one -> x.kind(one));
        int[] kinds = {1, 2, 3, 4, 5, 1};
        for (int one = 0; one <= 5; one++) {
            due("kind of " + one, x.kind(one), kinds[one]);
        }
        due("of one person", in(ONE).kind(1), BAD);
    }

    @Says("A PERSON is taken as one of a KIND (0 .. 5): its number. BAD; KIND: it is no such one.")
    static void promise38_boundsOfAs() {
        HeelPost x = in(SIX);
        bounds("one", 0, 5, one -> x.as(one, 0));
        bounds("kind", 0, 5, kind -> x.as(4, kind));
        due("the last one", x.as(5, 1), 5);
        due("no such one", x.as(5, 2), KIND);
        due("status", x.status(), 3);
        due("BAD", x.as(6, 2), BAD);
        due("leaves it", x.status(), 3);
        due("all are persons", x.as(5, 0), 5);
        due("status", x.status(), 0);
        due("a walker is no child", x.as(0, 2), KIND);
        due("a maid is no walker", x.as(3, 1), KIND);
        due("a maid is not blind", x.as(3, 5), KIND);
        due("a blind one is a maid", x.as(4, 4), 4);
    }

    @Says("An ASK (0, 1) of a PERSON. BAD. THE TRACE is empty ahead of it.")
    static void promise39_boundsOfAsk() {
        HeelPost x = in(SIX);
        bounds("one", 0, 5, one -> x.ask(one, 0));
        bounds("what", 0, 1, what -> x.ask(5, what));
        due("the last one's mark", x.ask(5, 1), 5);
        due("the last one's size", x.ask(5, 0), 28);
        due("trace", x.trace(3), 20);
        dueOfEach(BAD, "ask", one -> x.ask(one, 1), LEAST, -1, 6, MOST);
        dueOfEach(BAD, "ask", what -> x.ask(0, what), LEAST, -1, 2, MOST);
        due("what is refused leaves the trace", x.trace(3), 20);
        x.ask(0, 1);
        due("it was empty ahead of it", x.trace(0), 21);
        due("and is shorter now", x.trace(2), NONE);
    }

    @Says("Number i of THE TRACE; NONE.")
    static void promise40_boundsOfATrace() {
        HeelPost x = in(FIVE);
        dueOfEach(NONE, "before an ask", i -> x.trace(i), LEAST, -1, 0, 1, 15, 16, MOST);
        x.ask(1, 0);
        due("the first", x.trace(0), 12);
        due("the last", x.trace(5), 20);
        dueOfEach(NONE, "beyond", i -> x.trace(i), LEAST, -1, 6, 15, 16, 17, MOST);
        tell(x, ONE);
        due("another town leaves it", x.trace(5), 20);
    }

    @Says("How many: 0 ROWS, 1 LANES, 2 PEOPLE, 3 HOUR, 4 LETTERS that are OUT (bits), 5 who is AT HOME (bits), 6 ACTS that can be undone, 7 bytes on the tape. BAD.")
    static void promise41_boundsOfCounts() {
        HeelPost x = new HeelPost();
        bounds("count", 0, 7, what -> x.count(what));
        tell(x, SIX);
        for (int row = 0; row <= 7; row++) {
            x.row(row, 0, row);
        }
        for (int i = 0; i < 41; i++) {
            x.hours(24);
        }
        x.hours(15);
        for (int p = 0; p <= 5; p++) {
            x.stay(p, 1);
        }
        for (int l = 0; l <= 3; l++) {
            x.post(l, 0, 8);
        }
        for (int i = 0; i < 120; i++) {
            x.feed(';');
        }
        int[] most = {8, 9, 6, 999, 15, 63, 24, 120};
        for (int what = 0; what <= 7; what++) {
            due("the most of " + what, x.count(what), most[what]);
        }
        dueOfEach(BAD, "count", what -> x.count(what), LEAST, -1, 8, MOST);
    }

    @Says("Of the latest call with a ROW, or as(), that was not BAD, STATE, FULL: the number of its FINDING;")
    static void promise42_whatIsRefusedLeavesIt() {
        HeelPost x = in(ONE);
        x.row(0, 0, 1);
        due("PLACE", x.set(0, 1, 0), PLACE);
        due("row", x.row(8, 0, 0), BAD);
        due("status", x.status(), 2);
        due("set", x.set(8, 0, 0), BAD);
        due("copy", x.copy(0, 0, 8, 0, 0), BAD);
        due("drop", x.drop(8), BAD);
        due("as", x.as(1, 0), BAD);
        due("who", x.who(0, 0, 4, 0, 0, 1), BAD);
        due("missing", x.missing(4, 0, 0, 1), BAD);
        due("goals", x.goals(4, 0, 0, 1), BAD);
        due("status", x.status(), 2);
        due("who", x.who(0, 0, 0, 0, 0, 1), STATE);
        due("missing", x.missing(0, 0, 0, 1), STATE);
        due("goals", x.goals(0, 0, 0, 1), STATE);
        due("status", x.status(), 2);
        for (int i = 0; i <= 120; i++) {
            x.feed('t');
        }
        due("FULL is no call with a row", x.status(), 2);
    }

    @Says("Of the latest call with a ROW, or as()")
    static void promise42_callsWithoutARowLeaveIt() {
        HeelPost x = in(ONE);
        x.as(0, 5);
        tell(x, ONE);
        tell(x, "x");
        x.hours(1);
        x.undo();
        x.post(0, 0, 4);
        x.callBack(0);
        x.post(0, 0, 4);
        x.begin(0, 1);
        x.stay(0, 1);
        x.stay(0, 0);
        x.person(0, 3);
        x.letter(0, 3);
        x.lane(0);
        x.ahead(0, 1);
        x.letterAhead(0, 1);
        x.arrives(0);
        x.carriers(0, 1);
        x.bestHour(0, 4, 0);
        x.spots(4, 5);
        x.cutOff();
        x.crew(0, 5, 0);
        x.needed(0, 5);
        x.answer(0);
        x.busy(5, 0);
        x.sick(0, 5, 1, 0);
        x.drawn(5, 1, 0);
        x.image(0);
        x.restore(0);
        x.kind(0);
        x.ask(0, 0);
        x.trace(0);
        x.count(0);
        x.fault();
        due("status", x.status(), 3);
        due("status leaves it, too", x.status(), 3);
    }

    @Says("0: it had none, or there was none.")
    static void promise42_eachCallWithARow() {
        HeelPost x = sent(ONE, 4);
        due("there was none", x.status(), 0);
        String[] calls = {"row", "set", "copy", "drop", "who", "begins", "missing", "goals", "as"};
        for (int call = 0; call < calls.length; call++) {
            x.row(0, 0, 1);
            x.row(2, 0, 1);
            x.drop(7);
            due("found", x.status(), 1);
            due(calls[call] + " had none", with(x, call) < 0 ? -1 : 0, 0);
            due("status of " + calls[call], x.status(), 0);
        }
    }

    private static int with(HeelPost x, int call) {
        switch (call) {
            case 0: return x.row(1, 0, 1);
            case 1: return x.set(0, 0, 1);
            case 2: return x.copy(0, 0, 0, 0, 1);
            case 3: return x.drop(2);
            case 4: return x.who(0, 0, 0, 0, 0, 1);
            case 5: return x.who(0, 1, 0, 0, 0, 1);
            case 6: return x.missing(0, 0, 0, 1);
            case 7: return x.goals(0, 0, 0, 1);
            default: return x.as(0, 0);
        }
    }
}
