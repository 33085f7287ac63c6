/**
 * The boundary cases that "Terms" and its parts 1 and 2 name, a test for each; the name says which part it is of,
 * and with it stand the words that would be broken. Answers were worked out by hand from the document.
 */
public final class TermsTest extends Checks {
    public static void main(String[] args) throws Exception {
        runSaid(TermsTest.class);
        end();
    }

    /** Where a person is from now on, hour by hour. */
    private static void way(HeelPost x, int person, int... lanes) {
        for (int n = 0; n < lanes.length; n++) {
            due("ahead(" + person + ", " + n + ")", x.ahead(person, n), lanes[n]);
        }
    }

    /** Who would carry each letter from 0 on in this hour. */
    private static void carried(HeelPost x, int... people) {
        for (int l = 0; l < people.length; l++) {
            due("letter(" + l + ", 3)", x.letter(l, 3), people[l]);
        }
    }

    private static void postAll(HeelPost x, int letters, int lane, int goal) {
        for (int l = 0; l < letters; l++) {
            x.post(l, lane, goal);
        }
    }

    private static void faulty(String text, int number, int place) {
        HeelPost x = new HeelPost();
        due("town() of " + text, tell(x, text), -1000100 - place);
        due("fault() of " + text, x.fault(), number);
    }

    private static void good(String text, int people) {
        HeelPost x = new HeelPost();
        due("town() of " + text, tell(x, text), people);
        due("fault() of " + text, x.fault(), 0);
    }

    // ---------------------------------------------------------------- what it is

    @Says("An object is used for at most 512 calls after it has been made")
    static void head_the512thCallIsAnswered() {
        HeelPost x = in(ONE);
        int calls = ONE.length() + 1;
        while (calls < 511) {
            x.post(0, 0, 4);
            calls++;
        }
        due("arrives(0), the 512th call", x.arrives(0), 5);
    }

    @Says("public static final int NONE = -1000000, BAD = -1000001, STATE = -1000002, FULL = -1000003;")
    static void face_theConstants() {
        due("NONE", HeelPost.NONE, -1000000);
        due("BAD", HeelPost.BAD, -1000001);
        due("STATE", HeelPost.STATE, -1000002);
        due("FULL", HeelPost.FULL, -1000003);
    }

    // ---------------------------------------------------------------- Terms

    @Says("Numbers go from 0 on.")
    static void terms_numbersGoFrom0On() {
        HeelPost x = in(ONE);
        due("person 0", x.person(0, 1), 4);
        due("no person 1 of one", x.person(1, 1), BAD);
        due("lane 0", x.lane(0), 1);
        due("no lane 5 of five", x.lane(5), BAD);
        due("hour 0", x.count(3), 0);
        due("letter 0", x.post(0, 0, 1), 1);
        due("row 0", x.row(0, 0, 1), 1);
        due("item 0", x.set(0, 0, 1), 1);
        due("no item 1 of one", x.set(0, 1, 1), PLACE);
        x.ask(0, 1);
        due("trace 0", x.trace(0), 21);
    }

    @Says("All that is divided is cut towards 0")
    static void terms_whatIsDividedIsCut() {
        way(in("t9,24;d8,0,0;"), 0, 8, 8, 7, 7, 6, 6);
        HeelPost x = in("t9,4;m0,8,0;");
        due("the last hour of day 0", x.ahead(0, 3), 3);
        due("the last hour of day 1", x.ahead(0, 7), 0);
    }

    @Says("but fractions, told as two numbers in lowest terms (0 is 0 by 1)")
    static void terms_fractionsInLowestTerms() {
        HeelPost x = in("t3,4;w0,1,0;w1,2,1;");
        x.post(0, 0, 2);
        due("25 of 100, above", x.sick(0, 2, 5, 0), 1);
        due("25 of 100, below", x.sick(0, 2, 5, 1), 4);
        due("0, above", x.sick(0, 1, 5, 0), 0);
        due("0, below", x.sick(0, 1, 5, 1), 1);
        due("1, above", x.sick(0, 2, 0, 0), 1);
        due("1, below", x.sick(0, 2, 0, 1), 1);
        due("49 of 100, above", x.sick(0, 2, 3, 0), 49);
        due("49 of 100, below", x.sick(0, 2, 3, 1), 100);
    }

    @Says("Sets are bits.")
    static void terms_setsAreBits() {
        HeelPost x = in("t9,24;w0,0,0;w0,0,0;w0,0,0;w0,0,0;w0,0,0;w8,6,0;");
        due("the last person", x.lane(8), 32);
        due("the last letter", x.post(3, 8, 0), 8);
        due("the last lane", x.spots(8, 1), 256);
        fill(x, 0, 6);
        due("the last kind", x.who(5, 0, 3, 0, 0, 1), 32);
        fill(x, 1, 8, 8);
        due("begins from 2 to the last", x.who(5, 1, 3, 1, 0, 2), 16777212);
    }

    @Says("Refusals are answers, the first of these that fits, but as told: BAD (a number is not as told; there is no such thing), STATE (as told)")
    static void terms_badIsAheadOfState() {
        HeelPost x = in(ONE);
        x.row(0, 0, 1);
        due("letterAhead", x.letterAhead(0, 100), BAD);
        due("letterAhead alone", x.letterAhead(0, 99), STATE);
        due("carriers", x.carriers(0, 0), BAD);
        due("carriers alone", x.carriers(0, 1), STATE);
        due("crew, hours", x.crew(0, 0, 0), BAD);
        due("crew, what", x.crew(0, 1, 2), BAD);
        due("crew alone", x.crew(0, 1, 1), STATE);
        due("needed", x.needed(0, 100), BAD);
        due("needed alone", x.needed(0, 99), STATE);
        due("who, person", x.who(1, 0, 0, 0, 0, 1), BAD);
        due("who, which", x.who(0, 2, 0, 0, 0, 1), BAD);
        due("who, row", x.who(0, 0, 0, 8, 0, 1), BAD);
        due("who, hours", x.who(0, 0, 0, 0, 0, 0), BAD);
        due("who alone", x.who(0, 0, 0, 0, 0, 1), STATE);
        due("missing, row", x.missing(0, 8, 0, 1), BAD);
        due("missing, hours", x.missing(0, 0, 0, 13), BAD);
        due("missing alone", x.missing(0, 0, 0, 1), STATE);
        due("goals, row", x.goals(0, -1, 0, 1), BAD);
        due("goals, hours", x.goals(0, 0, 0, 13), BAD);
        due("goals alone", x.goals(0, 0, 0, 1), STATE);
        due("sick, hours", x.sick(0, 100, 0, 0), BAD);
        due("sick, cases", x.sick(0, 0, 11, 0), BAD);
        due("sick, what", x.sick(0, 0, 0, 2), BAD);
        due("sick alone", x.sick(0, 0, 0, 0), STATE);
        due("restore", x.restore(2), BAD);
        due("restore alone", x.restore(1), STATE);
        due("image", new HeelPost().image(2), BAD);
        due("image alone", new HeelPost().image(1), STATE);
    }

    @Says("STATE (as told), FULL (as told), then FINDINGS")
    static void terms_badIsAheadOfFull() {
        HeelPost x = new HeelPost();
        for (int i = 0; i < 120; i++) {
            x.feed('t');
        }
        due("feed", x.feed(256), BAD);
        due("feed alone", x.feed(255), FULL);
        HeelPost y = lastHour();
        due("hours", y.hours(25), BAD);
        due("hours, none", y.hours(0), BAD);
        due("hours alone", y.hours(24), FULL);
    }

    /** STATE and FULL never fit one call: without a town it is not late, and feed knows no STATE. */
    @Says("STATE: no TOWN (ahead of BAD)")
    static void terms_stateIsAheadOfBadWhereItIsToldSo() {
        HeelPost x = new HeelPost();
        dueOfEach(STATE, "hours", n -> x.hours(n), LEAST, -1, 0, 1, 24, 25, MOST);
        dueOfEach(STATE, "busy", n -> x.busy(n, 0), LEAST, 0, 1, 99, 100, MOST);
        dueOfEach(STATE, "busy, what", n -> x.busy(1, n), LEAST, -1, 0, 2, MOST);
        dueOfEach(STATE, "drawn", n -> x.drawn(n, 1, 0), LEAST, -1, 0, 99, 100, MOST);
        dueOfEach(STATE, "drawn, seed", n -> x.drawn(0, n, 0), LEAST, 0, 1, 1000000, MOST);
        dueOfEach(STATE, "drawn, what", n -> x.drawn(0, 1, n), LEAST, -1, 1, 2, MOST);
    }

    @Says("FULL (as told), then FINDINGS, of several the first in time")
    static void terms_badIsAheadOfFindings() {
        HeelPost x = in(ONE);
        due("row, and fewer than none", x.row(8, 0, -1), BAD);
        due("row's lane, and fewer than none", x.row(0, 3, -1), BAD);
        due("set", x.set(-1, -1, 0), BAD);
        due("copy, the other is missing", x.copy(0, 0, 8, 0, 0), BAD);
        due("copy, the one is missing", x.copy(8, 0, 0, 0, 0), BAD);
        due("drop", x.drop(8), BAD);
        due("as", x.as(1, 5), BAD);
        due("as, kind", x.as(0, 6), BAD);
        x.post(0, 0, 4);
        due("who, of a missing row", x.who(1, 0, 0, 0, 0, 1), BAD);
        due("missing, of a missing row", x.missing(4, 0, 0, 1), BAD);
        due("goals, of a missing row", x.goals(0, 0, 0, 13), BAD);
        due("none was found", x.status(), 0);
    }

    @Says("FULL (as told), then FINDINGS, of several the first in time")
    static void terms_stateIsAheadOfFindings() {
        HeelPost x = in(ONE);
        x.row(1, 0, 1);
        due("who, missing row", x.who(0, 0, 0, 0, 0, 1), STATE);
        due("who, no place", x.who(0, 0, 0, 1, 1, 1), STATE);
        due("missing, missing row", x.missing(0, 0, 0, 1), STATE);
        due("missing, no place", x.missing(0, 1, -1, 1), STATE);
        due("goals, missing row", x.goals(0, 0, 0, 1), STATE);
        due("goals, no place", x.goals(0, 1, 0, 2), STATE);
        due("none was found", x.status(), 0);
    }

    @Says("then FINDINGS, of several the first in time")
    static void terms_ofSeveralFindingsTheFirstInTime() {
        HeelPost x = in(ONE);
        x.post(0, 0, 4);
        x.row(1, 0, 1);
        x.row(2, 1, 1);
        due("set: no row, no place", x.set(0, 9, 0), NULL);
        due("copy: no row, two lanes, no place", x.copy(1, 9, 0, 9, 9), NULL);
        due("copy: two lanes, no place", x.copy(1, 9, 2, 9, 9), STORE);
        due("copy: no place", x.copy(1, 9, 1, 9, 9), PLACE);
        due("who: no row, no place", x.who(0, 0, 0, 0, -1, 1), NULL);
        due("missing: no row, no place", x.missing(0, 0, -1, 1), NULL);
        due("goals: no row, no place", x.goals(0, 0, -1, 1), NULL);
    }

    @Says("-1000010 less 1 NULL (a ROW that is missing), 2 PLACE (no such place of a ROW), 3 KIND (a PERSON that is not that), 4 SIZE (fewer than none), 5 STORE (ROWS of two LANES)")
    static void terms_theNumbersOfTheFindings() {
        HeelPost x = in(ONE);
        due("NULL", x.drop(0), -1000011);
        due("its number", x.status(), 1);
        x.row(0, 0, 1);
        due("PLACE", x.set(0, 1, 0), -1000012);
        due("its number", x.status(), 2);
        due("KIND", x.as(0, 4), -1000013);
        due("its number", x.status(), 3);
        due("SIZE", x.row(0, 0, -1), -1000014);
        due("its number", x.status(), 4);
        x.row(1, 1, 1);
        due("STORE", x.copy(0, 0, 1, 0, 1), -1000015);
        due("its number", x.status(), 5);
    }

    // ---------------------------------------------------------------- ======== 1

    @Says("ROWS 0 .. 7 are missing (at first)")
    static void part1_eightRowsAreMissingAtFirst() {
        HeelPost x = new HeelPost();
        dueOfEach(NULL, "drop", r -> x.drop(r), 0, 1, 2, 3, 4, 5, 6, 7);
        dueOfEach(BAD, "drop", r -> x.drop(r), LEAST, -1, 8, MOST);
        due("none is there", x.count(0), 0);
    }

    @Says("or have a LANE (0 bytes, 1 shorts, 2 ints)")
    static void part1_threeLanes() {
        HeelPost x = new HeelPost();
        int[] left = {0x78, 0x5678, 0x12345678};
        for (int lane = 0; lane <= 2; lane++) {
            due("row of lane " + lane, x.row(0, lane, 1), 1);
            due("its bits", x.set(0, 0, 0x12345678), left[lane]);
        }
        dueOfEach(BAD, "row of a lane", n -> x.row(0, n, 1), LEAST, -1, 3, MOST);
    }

    @Says("and 0 to 40 ITEMS")
    static void part1_rowsHave0To40Items() {
        HeelPost x = new HeelPost();
        due("none", x.row(0, 0, 0), 0);
        due("it is there", x.count(0), 1);
        due("without a place", x.set(0, 0, 0), PLACE);
        due("40", x.row(0, 0, 40), 40);
        due("the last", x.set(0, 39, 5), 5);
        due("no more", x.set(0, 40, 5), PLACE);
        due("41", x.row(0, 0, 41), BAD);
        due("all 40 stay", x.drop(0), 40);
    }

    @Says("and 0 to 40 ITEMS, 0 at first")
    static void part1_itemsAre0AtFirst() {
        HeelPost x = in(STILL);
        x.row(0, 0, 40);
        due("the first", item(x, 0, 0), 0);
        due("the last", item(x, 0, 39), 0);
        x.set(0, 0, 7);
        x.set(0, 39, 7);
        x.row(0, 0, 40);
        due("the first, in its place", item(x, 0, 0), 0);
        due("the last, in its place", item(x, 0, 39), 0);
        x.set(0, 39, 7);
        x.row(0, 0, 1);
        x.row(0, 0, 40);
        due("the last, by way of a short row", item(x, 0, 39), 0);
        x.set(0, 39, 7);
        x.drop(0);
        x.row(0, 0, 40);
        due("the last, of a row that was missing", item(x, 0, 39), 0);
    }

    @Says("THE TAPE has at most 120 bytes, that come one by one")
    static void part1_theTapeHas120Bytes() {
        HeelPost x = new HeelPost();
        for (int i = 1; i <= 120; i++) {
            due("byte " + i, x.feed(i), i);
        }
        due("byte 121", x.feed(0), FULL);
        due("the tape", x.count(7), 120);
    }

    @Says("THE TAPE has at most 120 bytes")
    static void part1_aFullTapeIsRead() {
        StringBuilder text = new StringBuilder(six());
        while (text.length() < 120) {
            text.append("w0,1,0;");
        }
        text.setLength(120);
        faulty(text.toString(), 3, 47);
    }

    @Says("TOKENS: letters a to z (each by itself)")
    static void part1_lettersStandByThemselves() {
        faulty("tt", 1, 1);
        faulty("t5,6;ww0,4,1;", 1, 6);
        faulty("t5,6;wc0,4,1;", 1, 6);
        faulty("T5,6;w0,4,1;", 1, 0);
        faulty("t5,6;W0,4,1;", 1, 5);
    }

    @Says("NUMBERS (figures, 2 at most)")
    static void part1_numbersHaveTwoFiguresAtMost() {
        good("t5,6;w0,4,1;", 1);
        good("t05,06;w00,04,01;", 1);
        HeelPost x = in("t09,10;w08,00,09;");
        due("lanes", x.count(1), 9);
        due("from", x.person(0, 0), 8);
        due("to", x.person(0, 1), 0);
        due("begins", x.person(0, 2), 9);
        faulty("t005,6;w0,4,1;", 1, 1);
        faulty("t5,006;w0,4,1;", 1, 3);
        faulty("t5,6;w000,4,1;", 1, 6);
        faulty("t5,6;w0,004,1;", 1, 8);
        faulty("t5,6;w0,4,001;", 1, 10);
    }

    @Says("NUMBERS (figures, 2 at most), SIGNS , and ; nothing else")
    static void part1_nothingElseIsAToken() {
        for (int place = 0; place <= ONE.length(); place++) {
            for (int b = 0; b <= 255; b++) {
                boolean token = b >= 'a' && b <= 'z' || b >= '0' && b <= '9' || b == ',' || b == ';';
                if (!token) {
                    faulty(ONE.substring(0, place) + (char) b + ONE.substring(place), 1, place);
                }
            }
        }
    }

    @Says("town: law person { person }")
    static void part1_aLawAndOnePersonAtLeast() {
        faulty("t5,6;", 1, 5);
        good("t5,6;w0,4,1;", 1);
        good("t5,6;w0,4,1;w0,4,1;", 2);
        faulty("w0,4,1;", 1, 0);
        faulty("t5,6;t5,6;w0,4,1;", 1, 5);
        faulty("t5,6;w0,4,1;t5,6;", 1, 12);
        faulty("t5,6;w0,4,1;;", 1, 12);
    }

    @Says("law: t LANES , HOURS ;")
    static void part1_everyTokenHasItsPlace() {
        String form = "tn,n;sn,n,n;";
        for (int place = 0; place < ONE.length(); place++) {
            for (char c : "twx,;".toCharArray()) {
                boolean fits = c == form.charAt(place) || c == 'w' && form.charAt(place) == 's';
                if (!fits) {
                    faulty(ONE.substring(0, place) + c + ONE.substring(place + 1), 1, place);
                }
            }
        }
        faulty("05,6;w0,4,1;", 1, 0);
        faulty("t5,6;00,4,1;", 1, 5);
    }

    @Says("(2 to 9: LANES 0, 1, .. in a row;")
    static void part1_lanes2To9() {
        for (int lanes = 2; lanes <= 9; lanes++) {
            HeelPost x = in("t" + lanes + ",4;w0,1,0;");
            due("lanes", x.count(1), lanes);
            due("the last", x.lane(lanes - 1), 0);
            due("no more", x.lane(lanes), BAD);
        }
        for (String lanes : new String[] {"0", "1", "01", "10", "99"}) {
            faulty("t" + lanes + ",4;w0,0,0;", 2, 1);
        }
    }

    @Says("4 to 24: HOURS of a DAY)")
    static void part1_hours4To24() {
        for (int hours = 4; hours <= 24; hours++) {
            HeelPost x = in("t9," + hours + ";w0,8," + (hours - 2) + ";");
            due("the last hour of a day of " + hours, x.ahead(0, hours - 1), 1);
            due("the first of the next", x.ahead(0, hours), 0);
        }
        for (String hours : new String[] {"0", "3", "03", "25", "99"}) {
            faulty("t9," + hours + ";w0,0,0;", 2, 3);
        }
    }

    @Says("person: SORT FROM , TO , BEGINS ; (SORT: w one who walks, c a child, d a drunkard, m a maid, b a blind one;")
    static void part1_fiveSorts() {
        for (char c = 'a'; c <= 'z'; c++) {
            int kind = "wcdmb".indexOf(c) + 1;
            if (kind > 0) {
                due("kind of " + c, in("t5,6;" + c + "0,4,1;").kind(0), kind);
            } else {
                faulty("t5,6;" + c + "0,4,1;", 1, 5);
            }
        }
    }

    @Says("LANES both;")
    static void part1_fromAndToAreLanes() {
        for (int lanes : new int[] {2, 5, 9}) {
            String law = "t" + lanes + ",6;";
            int last = lanes - 1;
            good(law + "w0," + last + ",1;", 1);
            good(law + "w" + last + ",0,1;", 1);
            good(law + "w" + last + "," + last + ",1;", 1);
            faulty(law + "w" + lanes + ",0,1;", 2, 6);
            faulty(law + "w0," + lanes + ",1;", 2, 8);
            faulty(law + "w99,0,1;", 2, 6);
            faulty(law + "w0,99,1;", 2, 8);
        }
    }

    @Says("LANES both; 0 to 23;")
    static void part1_begins0To23() {
        due("0", in("t5,6;w0,4,0;").person(0, 2), 0);
        due("23", in("t5,6;w0,4,23;").person(0, 2), 23);
        faulty("t5,6;w0,4,24;", 2, 10);
        faulty("t5,6;w0,4,99;", 2, 10);
    }

    @Says("PEOPLE 0 .. 5, 6 at most)")
    static void part1_sixPeopleAtMost() {
        HeelPost x = in(six());
        due("people", x.count(2), 6);
        due("person 5", x.person(5, 1), 1);
        due("no person 6", x.person(6, 1), BAD);
        faulty(six() + "w0,1,0;", 3, 47);
    }

    @Says("A TOWN that is read stands in place of the one before (none at first)")
    static void part1_aTownInPlaceOfTheOneBefore() {
        HeelPost x = new HeelPost();
        due("none at first", x.count(2), 0);
        tell(x, "t9,24;w0,8,0;b8,0,0;");
        due("fewer", tell(x, "t2,4;m1,0,3;"), 1);
        due("lanes", x.count(1), 2);
        due("no lane", x.lane(2), BAD);
        due("no person", x.kind(1), BAD);
        due("kind", x.kind(0), 4);
        due("from", x.person(0, 0), 1);
        due("to", x.person(0, 1), 0);
        due("begins", x.person(0, 2), 3);
    }

    @Says("HOUR 0, no LETTERS are out, nobody stays AT HOME; no ACT can be undone")
    static void part1_allBeginsAnewInATownThatIsRead() {
        HeelPost x = in(six());
        postAll(x, 4, 0, 1);
        x.stay(5, 1);
        x.hours(5);
        due("acts", x.count(6), 10);
        tell(x, six());
        due("hour", x.count(3), 0);
        due("letters", x.count(4), 0);
        due("a letter", x.letter(3, 0), 0);
        due("home", x.count(5), 0);
        due("acts", x.count(6), 0);
        due("undo", x.undo(), STATE);
    }

    @Says("FAULTS, the first TOKEN that has one (its first byte)")
    static void part1_theFirstTokenThatHasAFault() {
        faulty("t1,3;q9,9,99;", 2, 1);
        faulty("t5,3;q9,9,99;", 2, 3);
        faulty("t5,25;q9,9,99;", 2, 3);
        faulty("t5,6;q9,9,99;", 1, 5);
        faulty("t5,6;w9,9,99;", 2, 6);
        faulty("t5,6;w10,9,99;", 2, 6);
        faulty("t5,6;w0,9,99;", 2, 8);
        faulty("t5,6;w0,4,99", 2, 10);
        faulty("t5,2", 2, 3);
        faulty(six() + "w9", 3, 47);
    }

    @Says("of one TOKEN the least: 1 it cannot stand there, or is none")
    static void part1_ofOneTokenTheLeastFault() {
        faulty("t100,6;w0,4,1;", 1, 1);
        faulty("t5,256;w0,4,1;", 1, 3);
        faulty("t5,6;w999,4,1;", 1, 6);
        faulty("t5,6;w0,4,999;", 1, 10);
        faulty(six() + "x0,1,0;", 1, 47);
        faulty(six() + "t", 1, 47);
        faulty(six() + ";", 1, 47);
        faulty(six() + "0", 1, 47);
        faulty(six() + "W", 1, 47);
    }

    @Says("(a run of three figures, at its first;")
    static void part1_threeFiguresAtTheirFirst() {
        faulty("t123,6;", 1, 1);
        faulty("t1234,6;", 1, 1);
        faulty("t5,123", 1, 3);
        faulty("t5,6;w0,4,123", 1, 10);
        faulty("123", 1, 0);
        faulty("t5,6;123", 1, 5);
        faulty("t5,6;w0,4,1;123", 1, 12);
        faulty("t5,6;w0,4,12345678901234567890", 1, 10);
    }

    @Says("the end: how many bytes there are)")
    static void part1_theEndWhereItCannotStand() {
        String two = ONE + "c4,0,0;";
        for (int bytes = 0; bytes < two.length(); bytes++) {
            if (bytes != ONE.length()) {
                faulty(two.substring(0, bytes), 1, bytes);
            }
        }
        good(two, 2);
    }

    @Says("the end: how many bytes there are)")
    static void part1_theEndIsTheEndOfTheLatestText() {
        String two = ONE + "c4,0,0;";
        for (int bytes = 0; bytes < two.length(); bytes++) {
            HeelPost x = in(two);
            String text = two.substring(0, bytes);
            due("town() of " + text + " behind a longer text", tell(x, text), bytes == ONE.length() ? 1 : -1000100 - bytes);
        }
        HeelPost y = in("t9,24;w8,8,23;");
        due("one figure where two were", tell(y, "t9,24;w8,8,2"), -1000112);
        due("a text behind a full tape", tellBehindAFullTape("t9,24;w8,8,2"), -1000112);
    }

    private static int tellBehindAFullTape(String text) {
        HeelPost x = new HeelPost();
        for (int i = 0; i < 120; i++) {
            x.feed("3;w0,1,".charAt((i + 2) % 7));
        }
        x.town();
        return tell(x, text);
    }

    @Says("2 a NUMBER that is not as told")
    static void part1_aNumberThatIsNotAsTold() {
        faulty("t1,6;w0,4,1;", 2, 1);
        faulty("t5,3;w0,4,1;", 2, 3);
        faulty("t5,6;w5,4,1;", 2, 6);
        faulty("t5,6;w0,5,1;", 2, 8);
        faulty("t5,6;w0,4,24;", 2, 10);
        faulty(ONE + "c5,0,0;", 2, 13);
        faulty(ONE + "c0,05,0;", 2, 15);
        faulty(ONE + "c0,0,24;", 2, 17);
    }

    @Says("3 a person more than there is room for (its letter)")
    static void part1_aPersonMoreAtItsLetter() {
        for (char sort : "wcdmb".toCharArray()) {
            faulty(six() + sort, 3, 47);
            faulty(six() + sort + "9,9,99;", 3, 47);
        }
    }

    private static String six() {
        return "t2,4;" + "w0,1,0;".repeat(6);
    }

    /** The town of ONE at hour 999, the last. */
    private static HeelPost lastHour() {
        HeelPost x = in(ONE);
        for (int i = 0; i < 41; i++) {
            x.hours(24);
        }
        x.hours(15);
        due("the last hour", x.count(3), 999);
        return x;
    }

    // ---------------------------------------------------------------- ======== 2

    @Says("The CLOCK is what is left over of HOUR by HOURS")
    static void part2_theClockAtTheEndOfADay() {
        way(in("t9,4;w0,8,0;"), 0, 0, 1, 2, 3, 0, 1, 2, 3, 0, 1);
        HeelPost x = in("t9,24;w0,8,20;");
        x.hours(23);
        due("clock 23", x.person(0, 3), 3);
        due("clock 0 comes", x.person(0, 4), 0);
        x.hours(1);
        due("clock 0", x.person(0, 3), 0);
        due("hour", x.count(3), 24);
    }

    @Says("the DAY is HOUR by HOURS (cut)")
    static void part2_theDayAtTheEndOfADay() {
        way(in("t9,4;m0,8,0;"), 0, 0, 1, 2, 3, 0, 0, 0, 0, 0, 1, 2, 3, 0, 0);
        HeelPost x = in("t9,24;m0,8,20;");
        due("day 0, clock 23", x.ahead(0, 23), 3);
        due("day 1, clock 0", x.ahead(0, 24), 0);
        due("day 1, clock 23", x.ahead(0, 47), 0);
        due("day 2, clock 23", x.ahead(0, 71), 3);
    }

    @Says("GONE: how many LANES a PERSON is from FROM towards TO (no more than there are between)")
    static void part2_goneNoMoreThanThereAreBetween() {
        HeelPost x = in("t5,24;w1,3,0;c3,1,0;d1,3,0;m1,3,0;b1,3,0;w2,2,0;");
        way(x, 0, 1, 2, 3, 3, 3, 3, 3);
        way(x, 1, 3, 2, 1, 1, 1, 1, 1);
        way(x, 2, 1, 1, 2, 2, 3, 3, 3);
        way(x, 3, 1, 2, 3, 3, 3, 3, 3);
        way(x, 4, 1, 3, 3, 3, 3, 3, 3);
        way(x, 5, 2, 2, 2, 2, 2, 2, 2);
        way(in("t9,24;b0,3,0;"), 0, 0, 2, 3, 3);
        way(in("t9,24;b8,5,0;"), 0, 8, 6, 5, 5);
        due("until the day ends", x.ahead(0, 23), 3);
    }

    @Says("one who walks, a child as many as CLOCK is above BEGINS (0, if it is not)")
    static void part2_beforeAtAndBehindBegins() {
        way(in("t9,24;w0,8,2;"), 0, 0, 0, 0, 1, 2);
        way(in("t9,24;c8,0,2;"), 0, 8, 8, 8, 7, 6);
        due("22 of 24", in("t9,24;w0,8,22;").ahead(0, 23), 1);
        due("23 of 24: never", in("t9,24;w0,8,23;").ahead(0, 23), 0);
        way(in("t9,4;w0,8,2;"), 0, 0, 0, 0, 1, 0);
        way(in("t9,4;w0,8,3;"), 0, 0, 0, 0, 0, 0);
        way(in("t9,4;w0,8,23;"), 0, 0, 0, 0, 0, 0);
    }

    @Says("a drunkard half of that (cut)")
    static void part2_aDrunkardHalf() {
        way(in("t9,24;d0,8,1;"), 0, 0, 0, 0, 1, 1, 2, 2, 3);
        HeelPost x = in("t9,24;d0,8,0;");
        due("clock 15", x.ahead(0, 15), 7);
        due("clock 16", x.ahead(0, 16), 8);
        due("clock 17", x.ahead(0, 17), 8);
    }

    @Says("a maid as one who walks, but nothing on DAYS that are odd")
    static void part2_aMaidOnOddDays() {
        way(in("t9,4;m8,0,1;"), 0, 8, 8, 7, 6, 8, 8, 8, 8, 8, 8, 7, 6);
    }

    @Says("a blind one twice as many as a maid")
    static void part2_aBlindOneTwice() {
        way(in("t9,4;b0,8,0;"), 0, 0, 2, 4, 6, 0, 0, 0, 0, 0, 2, 4, 6);
        way(in("t9,4;b0,8,2;"), 0, 0, 0, 0, 2, 0);
    }

    @Says("(On the next DAY all are at FROM again.)")
    static void part2_allAreAtFromOnTheNextDay() {
        HeelPost x = in("t5,4;w0,4,0;c4,0,0;d0,4,0;m0,4,0;b4,0,0;");
        int[] last = {3, 1, 1, 3, 0};
        int[] from = {0, 4, 0, 0, 4};
        for (int p = 0; p < 5; p++) {
            due("the last hour, " + p, x.ahead(p, 3), last[p]);
            due("the next day, " + p, x.ahead(p, 4), from[p]);
        }
    }

    @Says("Who stays AT HOME is at FROM.")
    static void part2_whoStaysAtHomeIsAtFrom() {
        HeelPost x = in(ONE);
        x.hours(3);
        due("on his errand", x.person(0, 3), 2);
        x.stay(0, 1);
        due("now", x.person(0, 3), 0);
        due("then", x.person(0, 4), 0);
        way(x, 0, 0, 0, 0, 0, 0, 0, 0);
        x.stay(0, 0);
        due("on his errand", x.person(0, 3), 2);
    }

    @Says("LETTERS 0 to 3 (without a TOWN there are none: BAD)")
    static void part2_lettersWithoutATown() {
        HeelPost x = new HeelPost();
        for (int letter = -1; letter <= 4; letter++) {
            due("post", x.post(letter, 0, 0), BAD);
            due("callBack", x.callBack(letter), BAD);
            due("letter", x.letter(letter, 0), BAD);
            due("letterAhead", x.letterAhead(letter, 0), BAD);
            due("arrives", x.arrives(letter), BAD);
            due("carriers", x.carriers(letter, 1), BAD);
            due("crew", x.crew(letter, 1, 0), BAD);
            due("needed", x.needed(letter, 1), BAD);
            due("answer", x.answer(letter), BAD);
            due("missing", x.missing(letter, 0, 0, 1), BAD);
            due("goals", x.goals(letter, 0, 0, 1), BAD);
            due("sick", x.sick(letter, 0, 0, 0), BAD);
        }
    }

    @Says("LETTERS 0 to 3")
    static void part2_letters0To3() {
        HeelPost x = in(ONE);
        bounds("post", 0, 3, l -> x.post(l, 0, 4));
        bounds("callBack", 0, 3, l -> x.callBack(l));
        bounds("letter", 0, 3, l -> x.letter(l, 0));
    }

    @Says("are OUT, or not; each that is lies in a LANE, for a GOAL")
    static void part2_outOrNot() {
        HeelPost x = in(ONE);
        due("none", x.count(4), 0);
        postAll(x, 4, 1, 3);
        due("all", x.count(4), 15);
        due("where", x.letter(3, 1), 1);
        due("goal", x.letter(3, 2), 3);
        x.callBack(3);
        due("no more", x.letter(3, 0), 0);
    }

    @Says("An HOUR: each LETTER that is OUT, not at its GOAL, by numbers")
    static void part2_oneAtItsGoalIsNotCarried() {
        HeelPost x = in("t5,6;w0,4,0;");
        x.post(0, 0, 0);
        x.post(1, 0, 4);
        carried(x, NONE, 0);
        due("the hour", x.hours(1), 1);
        due("letter 0", x.letter(0, 1), 0);
        due("letter 1", x.letter(1, 1), 1);
        x.post(1, 1, 2);
        due("it comes to its goal", x.hours(1), 3);
        due("and stays there", x.hours(1), 3);
        due("letter 1", x.letter(1, 1), 2);
    }

    @Says("each LETTER that is OUT, not at its GOAL, by numbers")
    static void part2_oneThatIsNotOutIsNotCarried() {
        HeelPost x = in("t5,6;w0,4,0;");
        x.post(0, 0, 4);
        x.callBack(0);
        x.post(1, 0, 4);
        due("the other", x.letter(1, 3), 0);
        x.hours(1);
        due("it is carried", x.letter(1, 1), 1);
        due("none comes back", x.count(4), 2);
    }

    @Says("not at its GOAL, by numbers, is carried")
    static void part2_lettersGoByNumbers() {
        HeelPost x = in("t5,6;w0,4,0;");
        postAll(x, 4, 0, 4);
        carried(x, 0, NONE, NONE, NONE);
        x.post(0, 1, 4);
        carried(x, NONE, 0, NONE, NONE);
        x.callBack(1);
        due("letter 2", x.letter(2, 3), 0);
        x.callBack(2);
        due("letter 3", x.letter(3, 3), 0);
    }

    @Says("is carried by the first PERSON who is in its LANE now")
    static void part2_theFirstPerson() {
        HeelPost x = in("t5,6;d0,4,0;w0,4,0;c0,4,0;m0,4,0;");
        postAll(x, 4, 0, 4);
        carried(x, 1, 2, 2, 3);
        x.stay(1, 1);
        carried(x, 2, 2, 3, NONE);
    }

    @Says("who is in its LANE now")
    static void part2_inItsLaneNow() {
        HeelPost x = in("t5,6;w0,4,0;");
        x.post(0, 1, 4);
        carried(x, NONE);
        x.hours(1);
        due("it stays", x.letter(0, 1), 1);
        carried(x, 0);
        x.hours(1);
        due("it goes", x.letter(0, 1), 2);
    }

    @Says("will be in another LANE towards the GOAL in the HOUR that comes")
    static void part2_whoStandsCarriesNone() {
        HeelPost x = in(ONE);
        x.post(0, 0, 4);
        carried(x, NONE);
        x.hours(1);
        carried(x, 0);
        HeelPost y = in("t3,6;w0,1,0;");
        y.hours(1);
        y.post(0, 1, 2);
        carried(y, NONE);
    }

    @Says("will be in another LANE towards the GOAL in the HOUR that comes")
    static void part2_whoGoesTheOtherWayCarriesNone() {
        HeelPost x = in("t5,6;w2,4,0;");
        x.post(0, 2, 0);
        x.post(1, 2, 1);
        x.post(2, 2, 3);
        carried(x, NONE, NONE, 0);
        HeelPost y = in("t5,6;w2,0,0;");
        y.post(0, 2, 4);
        y.post(1, 2, 3);
        y.post(2, 2, 1);
        carried(y, NONE, NONE, 0);
    }

    @Says("(perhaps beyond it)")
    static void part2_perhapsBeyondTheGoal() {
        HeelPost x = in("t5,6;b0,4,0;b4,0,0;");
        x.post(0, 0, 1);
        x.post(1, 4, 3);
        carried(x, 0, 1);
        due("both are there", x.hours(1), 3);
    }

    @Says("to the LANE where he will be, the GOAL at most")
    static void part2_theGoalAtMost() {
        for (int goal = 1; goal <= 4; goal++) {
            HeelPost x = in("t5,6;b0,4,0;b4,0,0;");
            x.post(0, 0, goal);
            x.post(1, 4, 4 - goal);
            x.hours(1);
            due("up, for " + goal, x.letter(0, 1), Math.min(goal, 2));
            due("down, for " + (4 - goal), x.letter(1, 1), Math.max(4 - goal, 2));
        }
        HeelPost night = in("t5,4;w4,0,0;");
        night.hours(3);
        night.post(0, 1, 3);
        due("on the way back by night", night.hours(1), 1);
        due("the goal", night.letter(0, 1), 3);
    }

    @Says("and has carried fewer than he can in this HOUR (a child 2, all others 1)")
    static void part2_aChildCarriesTwoOthersOne() {
        for (String sort : new String[] {"w", "m", "b"}) {
            HeelPost x = in("t5,6;" + sort + "0,4,0;");
            postAll(x, 4, 0, 4);
            carried(x, 0, NONE, NONE, NONE);
        }
        HeelPost c = in("t5,6;c0,4,0;");
        postAll(c, 4, 0, 4);
        carried(c, 0, 0, NONE, NONE);
        HeelPost d = in("t5,6;d0,4,0;");
        d.hours(1);
        postAll(d, 4, 0, 4);
        carried(d, 0, NONE, NONE, NONE);
    }

    @Says("fewer than he can in this HOUR")
    static void part2_eachHourIsCountedAnew() {
        HeelPost x = in("t5,6;c0,4,0;");
        postAll(x, 3, 0, 4);
        for (int lane = 1; lane <= 4; lane++) {
            due("the hour", x.hours(1), lane == 4 ? 3 : 0);
            due("letter 0", x.letter(0, 1), lane);
            due("letter 1", x.letter(1, 1), lane);
            due("letter 2", x.letter(2, 1), 0);
        }
    }

    @Says("HOUR is 1 more.")
    static void part2_theHourIs1More() {
        HeelPost x = in(ONE);
        x.hours(1);
        due("with no letter", x.count(3), 1);
        x.hours(24);
        due("24 more", x.count(3), 25);
    }

    @Says("ACTS (24 at most are kept, of more the oldest is forgotten;")
    static void part2_actsKept24AtMost() {
        HeelPost x = in(ONE);
        for (int i = 1; i <= 24; i++) {
            x.begin(0, i % 2 + 10);
            due("acts", x.count(6), i);
        }
        for (int left = 23; left >= 0; left--) {
            due("undo", x.undo(), left);
        }
        due("the first of 24 is undone, too", x.person(0, 2), 1);
        due("no more", x.undo(), STATE);
    }

    @Says("of more the oldest is forgotten")
    static void part2_ofMoreTheOldestIsForgotten() {
        HeelPost x = in(ONE);
        x.begin(0, 20);
        x.begin(0, 21);
        for (int i = 0; i < 24; i++) {
            x.post(0, 0, 4);
            due("acts", x.count(6), Math.min(i + 3, 24));
        }
        for (int left = 23; left >= 0; left--) {
            due("undo", x.undo(), left);
        }
        due("no more", x.undo(), STATE);
        due("what is forgotten stays", x.person(0, 2), 21);
        due("what is not is undone", x.count(4), 0);
        HeelPost y = in(ONE);
        y.begin(0, 20);
        y.hours(24);
        due("24 hours forget the act before", y.count(6), 24);
        for (int i = 0; i < 24; i++) {
            y.undo();
        }
        due("hour", y.count(3), 0);
        due("begins", y.person(0, 2), 20);
    }

    @Says("each can be undone, the latest first)")
    static void part2_theLatestActFirst() {
        HeelPost x = in(ONE);
        x.post(0, 0, 4);
        x.hours(1);
        x.begin(0, 5);
        x.undo();
        due("begins", x.person(0, 2), 1);
        due("the hour stays", x.count(3), 1);
        x.undo();
        due("the hour", x.count(3), 0);
        due("the letter stays", x.count(4), 1);
        x.undo();
        due("the letter", x.count(4), 0);
    }

    @Says("each can be undone, the latest first): an HOUR;")
    static void part2_anHourIsUndone() {
        HeelPost x = in(ONE);
        x.post(0, 0, 4);
        x.hours(3);
        due("where", x.letter(0, 1), 2);
        due("one hour alone", x.undo(), 3);
        due("hour", x.count(3), 2);
        due("where", x.letter(0, 1), 1);
        due("where he is", x.person(0, 3), 1);
    }

    @Says("a LETTER is posted in a LANE for a GOAL (in place of one that is OUT)")
    static void part2_whatWasPostedIsUndone() {
        HeelPost x = in(ONE);
        x.post(3, 1, 4);
        x.post(3, 2, 0);
        due("in its place", x.letter(3, 1), 2);
        x.undo();
        due("the one before lies there", x.letter(3, 1), 1);
        due("for its goal", x.letter(3, 2), 4);
        x.undo();
        due("none", x.letter(3, 0), 0);
    }

    @Says("one is called back (it is OUT no more)")
    static void part2_whatWasCalledBackIsUndone() {
        HeelPost x = in(ONE);
        x.post(3, 1, 4);
        x.callBack(3);
        due("out no more", x.count(4), 0);
        due("no place", x.letter(3, 1), BAD);
        x.undo();
        due("out", x.count(4), 8);
        due("where", x.letter(3, 1), 1);
        due("goal", x.letter(3, 2), 4);
    }

    @Says("BEGINS of a PERSON is another")
    static void part2_whatBeginsOtherwiseIsUndone() {
        HeelPost x = in(ONE);
        x.hours(3);
        x.begin(0, 0);
        due("where he is now", x.person(0, 3), 3);
        x.undo();
        due("begins", x.person(0, 2), 1);
        due("where he is", x.person(0, 3), 2);
    }

    @Says("one stays AT HOME, or no more")
    static void part2_whoStaysOrNoMoreIsUndone() {
        HeelPost x = in(ONE);
        x.stay(0, 1);
        x.stay(0, 0);
        x.undo();
        due("at home", x.count(5), 1);
        x.undo();
        due("no more", x.count(5), 0);
    }

    @Says("FULL: HOUR would be above 999")
    static void part2_theLastHour() {
        HeelPost x = lastHour();
        due("one more", x.hours(1), FULL);
        due("hour", x.count(3), 999);
        due("clock 3 of day 166", x.person(0, 3), 2);
        due("what is foretold goes on", x.person(0, 4), 3);
        due("to the end of the day", x.ahead(0, 3), 0);
        x.post(0, 0, 4);
        due("behind the last hour", x.arrives(0), 8);
        x.undo();
        x.undo();
        due("hour", x.count(3), 998);
        due("two more", x.hours(2), FULL);
        due("one more", x.hours(1), 0);
        due("hour", x.count(3), 999);
    }
}
