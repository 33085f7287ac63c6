/**
 * The boundary cases that parts 3 (what is foretold) and 4 (what is asked) of "Terms" name, a test for each; the name
 * says which part it is of, and with it stand the words that would be broken. Answers were worked out by hand.
 */
public final class TermsAheadTest extends Checks {
    /**
     * By maids, a lane in two days: a letter from lane 0 for lane 3 is in lane 1 behind 23 hours, in lane 2 behind 69,
     * in lane 3 behind 99.
     */
    private static final String CHAIN = "t4,24;m0,1,22;m1,2,20;m2,3,2;";
    /** As CHAIN, but an hour later at the end. */
    private static final String LONGER_CHAIN = "t4,24;m0,1,22;m1,2,20;m2,3,3;";
    /** Six who carry a letter from lane 0 for lane 6 on: each goes one lane, an hour behind the one before. */
    private static final String RELAY = "t7,24;w0,1,0;w1,2,1;w2,3,2;w3,4,3;w4,5,4;w5,6,5;";
    /** A maid who goes once in two days: of letters from lane 0 for 1 each is there behind 3, 51, 99 hours. */
    private static final String ONE_MAID = "t2,24;m0,1,2;";
    private static final String THREE_ALIKE = "t3,4;w0,2,0;w0,2,0;w0,2,0;";

    public static void main(String[] args) throws Exception {
        runSaid(TermsAheadTest.class);
        end();
    }

    private static HeelPost allAtHome(String town, int goal) {
        HeelPost x = sent(town, goal);
        for (int p = 0; p < x.count(2); p++) {
            x.stay(p, 1);
        }
        return x;
    }

    private static void fraction(String call, HeelPost x, int n, int p, long above, long below) {
        due(call + ": above", x.sick(0, n, p, 0), above);
        due(call + ": below", x.sick(0, n, p, 1), below);
    }

    // ---------------------------------------------------------------- ======== 3

    @Says("foretold (of a LETTER that is OUT; STATE, behind BAD: it is not)")
    static void foretold_ofALetterThatIsNotOut() {
        HeelPost x = in(CHAIN);
        x.row(0, 0, 1);
        for (int l = 0; l <= 3; l++) {
            due("letterAhead", x.letterAhead(l, 0), STATE);
            due("arrives", x.arrives(l), STATE);
            due("carriers", x.carriers(l, 1), STATE);
            due("crew", x.crew(l, 1, 0), STATE);
            due("needed", x.needed(l, 1), STATE);
            due("answer", x.answer(l), STATE);
            due("who", x.who(0, 0, l, 0, 0, 1), STATE);
            due("missing", x.missing(l, 0, 0, 1), STATE);
            due("goals", x.goals(l, 0, 0, 1), STATE);
            due("sick", x.sick(l, 0, 0, 0), STATE);
        }
        due("those of no letter are not refused", x.bestHour(0, 3, 1), 99);
        due("those of no letter are not refused", x.busy(1, 1), 0);
    }

    @Says("FORETOLD (nothing changes).")
    static void part3_nothingChanges() {
        HeelPost x = sent(RELAY, 6);
        x.post(3, 6, 0);
        x.stay(5, 1);
        fill(x, 0, 1, 2, 3);
        x.hours(2);
        x.ahead(0, 99);
        x.letterAhead(0, 99);
        x.arrives(0);
        x.carriers(0, 99);
        x.bestHour(0, 6, 0);
        x.spots(6, 99);
        x.cutOff();
        x.crew(0, 99, 1);
        x.needed(0, 99);
        x.meet(0, 1);
        x.answer(0);
        x.who(0, 0, 0, 0, 0, 3);
        x.who(0, 1, 0, 0, 0, 3);
        x.missing(0, 0, 0, 3);
        x.goals(0, 0, 0, 3);
        x.busy(99, 0);
        x.sick(0, 99, 5, 0);
        x.drawn(99, 999999, 0);
        int[] counts = {1, 7, 6, 2, 9, 32, 5, 0};
        for (int what = 0; what <= 7; what++) {
            due("count(" + what + ")", x.count(what), counts[what]);
        }
        due("letter 0 lies", x.letter(0, 1), 2);
        due("its goal", x.letter(0, 2), 6);
        due("letter 3 lies", x.letter(3, 1), 6);
        due("its goal", x.letter(3, 2), 0);
        due("kind", x.kind(0), 1);
        due("begins", x.person(0, 2), 0);
        due("the acts are the same", x.undo(), 4);
        due("letter 0 lay", x.letter(0, 1), 1);
    }

    @Says("AHEAD by n HOURS (0 to 99): where a PERSON is;")
    static void part3_aheadOfAPerson() {
        HeelPost x = in("t9,24;w0,8,0;");
        bounds("ahead", 0, 99, n -> x.ahead(0, n));
        x.hours(2);
        due("0", x.ahead(0, 0), 2);
        due("99, clock 5 of day 4", x.ahead(0, 99), 5);
    }

    @Says("where a LETTER is.")
    static void part3_aheadOfALetter() {
        HeelPost x = sent(CHAIN, 3);
        bounds("letterAhead", 0, 99, n -> x.letterAhead(0, n));
        due("0", x.letterAhead(0, 0), 0);
        due("22", x.letterAhead(0, 22), 0);
        due("23", x.letterAhead(0, 23), 1);
        due("98", x.letterAhead(0, 98), 2);
        due("99", x.letterAhead(0, 99), 3);
    }

    @Says("ARRIVES: behind how many HOURS (0: it is there; 99 at most) a LETTER is at its GOAL first; NONE.")
    static void part3_arrivesBehind0To99() {
        due("0", sent(CHAIN, 0).arrives(0), 0);
        due("1", sent("t2,4;w0,1,0;", 1).arrives(0), 1);
        due("99", sent(CHAIN, 3).arrives(0), 99);
        due("100", sent(LONGER_CHAIN, 3).arrives(0), NONE);
        due("never", sent("t4,4;w0,2,0;", 3).arrives(0), NONE);
        due("all are at home", allAtHome(CHAIN, 3).arrives(0), NONE);
    }

    @Says("CARRIERS: PEOPLE (bits) who carry it in the next n HOURS (1 to 99).")
    static void part3_carriersIn1To99Hours() {
        HeelPost x = sent(CHAIN, 3);
        bounds("carriers", 1, 99, n -> x.carriers(0, n));
        due("22", x.carriers(0, 22), 0);
        due("23", x.carriers(0, 23), 1);
        due("98", x.carriers(0, 98), 3);
        due("99", x.carriers(0, 99), 7);
        due("1", sent("t2,4;w0,1,0;", 1).carriers(0, 1), 1);
        due("it is there", sent(CHAIN, 0).carriers(0, 99), 0);
        due("all six", sent(RELAY, 6).carriers(0, 6), 63);
    }

    @Says("POST for a LANE, a GOAL: a LETTER that is posted k HOURS from now (0 to HOURS less 1;")
    static void part3_postedWithin0ToHoursLess1() {
        HeelPost x = in("t2,4;w0,1,0;");
        due("0, as he goes at once", x.bestHour(0, 1, 0), 0);
        due("behind 1", x.bestHour(0, 1, 1), 1);
        due("3, the last, by night", x.bestHour(1, 0, 0), 3);
        due("behind 4", x.bestHour(1, 0, 1), 4);
        HeelPost y = in("t2,4;m0,1,0;");
        y.hours(4);
        due("3: in 4 hours it were as soon there, but that is too late", y.bestHour(0, 1, 0), 3);
        due("behind 5", y.bestHour(0, 1, 1), 5);
        HeelPost z = in("t2,24;m0,1,0;");
        z.hours(24);
        due("23", z.bestHour(0, 1, 0), 23);
        due("behind 25", z.bestHour(0, 1, 1), 25);
    }

    @Says("LETTER 3, in place of what it is)")
    static void part3_postedAsLetter3() {
        HeelPost x = in("t2,4;w0,1,0;");
        x.post(3, 0, 1);
        due("in place of letter 3", x.bestHour(0, 1, 1), 1);
        x.post(2, 0, 1);
        due("behind letter 2", x.bestHour(0, 1, 1), 5);
        due("of those that are as soon the last", x.bestHour(0, 1, 0), 3);
        due("it is where it was", x.letter(3, 1), 0);
    }

    @Says("arrives soonest: k (of several the last);")
    static void part3_ofSeveralTheLastHour() {
        HeelPost x = in(ONE);
        due("0 and 1 are as soon there", x.bestHour(0, 4, 0), 1);
        due("behind 5", x.bestHour(0, 4, 1), 5);
        due("0 to 5 are as soon there", x.bestHour(4, 0, 0), 5);
    }

    @Says("behind how many HOURS from now, those k with (99 at most); NONE.")
    static void part3_postedAndThereWithin99() {
        HeelPost x = in(CHAIN);
        due("99", x.bestHour(0, 3, 1), 99);
        due("k", x.bestHour(0, 3, 0), 22);
        HeelPost y = in(LONGER_CHAIN);
        due("100", y.bestHour(0, 3, 1), NONE);
        due("no k", y.bestHour(0, 3, 0), NONE);
        HeelPost z = in("t4,4;w0,2,0;");
        due("never", z.bestHour(0, 3, 1), NONE);
        due("no k", z.bestHour(0, 3, 0), NONE);
        due("all are at home", allAtHome(RELAY, 6).bestHour(0, 1, 0), NONE);
    }

    @Says("SPOT for a GOAL, n HOURS (1 to 99): LANES (bits) from which one, posted now (likewise), is there behind n HOURS or less.")
    static void part3_spotsBehind1To99() {
        HeelPost x = in(CHAIN);
        bounds("spots", 1, 99, n -> x.spots(3, n));
        due("1: it is there where it is posted", x.spots(3, 1), 8);
        due("2", x.spots(3, 2), 8);
        due("3", x.spots(3, 3), 12);
        due("98", x.spots(3, 98), 14);
        due("99", x.spots(3, 99), 15);
        due("all are at home", allAtHome(CHAIN, 3).spots(3, 99), 8);
        HeelPost y = in("t9,24;b0,8,0;");
        due("by night, from the last lane", y.spots(0, 24), 257);
        due("up, by one who leaps over lanes", y.spots(8, 4), 256 + 64 + 16 + 4 + 1);
    }

    @Says("posted now (likewise), is there behind n HOURS or less")
    static void part3_spotsAsLetter3() {
        HeelPost x = in("t2,4;w0,1,0;");
        x.post(3, 0, 1);
        due("in place of letter 3", x.spots(1, 1), 3);
        x.post(2, 0, 1);
        due("behind letter 2", x.spots(1, 1), 2);
        due("a day later", x.spots(1, 5), 3);
        due("it is where it was", x.letter(3, 1), 0);
    }

    @Says("CUT OFF: LANES (bits) that are a GOAL of no LETTER posted now in another LANE, within 99 HOURS.")
    static void part3_cutOffWithin99() {
        HeelPost x = in(ONE_MAID);
        x.post(0, 0, 1);
        x.post(1, 0, 1);
        due("behind 99, the third in turn", x.cutOff(), 0);
        x.begin(0, 3);
        due("behind 100", x.cutOff(), 2);
        x.undo();
        x.stay(0, 1);
        due("all", x.cutOff(), 3);
        due("all nine, though a letter is there where it is posted", in(STILL).cutOff(), 511);
        due("the first and the last", in("t9,24;w1,7,0;").cutOff(), 257);
        due("none", in("t9,24;w0,8,0;").cutOff(), 0);
    }

    @Says("CREW for a LETTER, n HOURS (1 to 99): the fewest PEOPLE")
    static void part3_crewBehind1To99() {
        HeelPost x = sent(CHAIN, 3);
        bounds("crew", 1, 99, n -> x.crew(0, n, 0));
        due("98", x.crew(0, 98, 0), NONE);
        due("99", x.crew(0, 99, 0), 3);
        due("which", x.crew(0, 99, 1), 7);
        due("1", sent("t2,4;w0,1,0;", 1).crew(0, 1, 0), 1);
    }

    @Says("the fewest PEOPLE of those who are not AT HOME (all others AT HOME now) by whom it is at its GOAL behind n HOURS or less:")
    static void part3_crewOfNoneAndOfAll() {
        HeelPost x = sent(RELAY, 0);
        due("nobody, as it is there", x.crew(0, 1, 0), 0);
        due("which", x.crew(0, 1, 1), 0);
        x.post(0, 0, 6);
        due("all six", x.crew(0, 6, 0), 6);
        due("which", x.crew(0, 6, 1), 63);
        due("not so soon", x.crew(0, 5, 0), NONE);
        x.stay(5, 1);
        due("one is at home", x.crew(0, 6, 0), NONE);
        HeelPost y = allAtHome(RELAY, 1);
        due("all are at home", y.crew(0, 99, 0), NONE);
        due("which", y.crew(0, 99, 1), NONE);
        y.post(0, 1, 1);
        due("all are at home, and it is there", y.crew(0, 1, 0), 0);
    }

    @Says("(all others AT HOME now)")
    static void part3_crewWithAllOthersAtHome() {
        HeelPost x = sent("t3,4;w0,1,0;w0,2,0;", 2);
        due("by the second alone, as the first would take it but part of the way", x.crew(0, 2, 1), 2);
        x.post(0, 0, 1);
        x.post(1, 0, 2);
        due("by both, as the other letter is ahead of it", x.crew(1, 2, 1), 3);
    }

    @Says("how many; which (bits), of several the least; NONE.")
    static void part3_ofSeveralCrewsTheLeast() {
        HeelPost x = sent(THREE_ALIKE, 2);
        due("the first", x.crew(0, 2, 1), 1);
        x.stay(0, 1);
        due("the second", x.crew(0, 2, 1), 2);
        x.stay(1, 1);
        due("the third", x.crew(0, 2, 1), 4);
        x.stay(2, 1);
        due("none", x.crew(0, 2, 1), NONE);
        HeelPost y = sent("t3,4;w0,1,0;w1,2,1;w0,2,0;", 2);
        due("one is fewer than the least two", y.crew(0, 2, 1), 4);
        HeelPost z = sent("t3,4;w0,1,0;w1,2,1;w0,1,0;w1,2,1;", 2);
        due("the least of four pairs", z.crew(0, 2, 1), 3);
    }

    @Says("NEEDED for it, likewise:")
    static void part3_neededBehind1To99() {
        HeelPost x = sent(CHAIN, 3);
        bounds("needed", 1, 99, n -> x.needed(0, n));
        due("98", x.needed(0, 98), 0);
        due("99", x.needed(0, 99), 7);
        due("1", sent("t2,4;w0,1,0;", 1).needed(0, 1), 1);
        due("all six", sent(RELAY, 6).needed(0, 6), 63);
    }

    @Says("PEOPLE (bits) who are not AT HOME, without whom alone (AT HOME now) it is not so;")
    static void part3_neededAlone() {
        HeelPost x = sent(THREE_ALIKE, 2);
        due("none alone", x.needed(0, 2), 0);
        x.stay(0, 1);
        due("none alone", x.needed(0, 2), 0);
        x.stay(2, 1);
        due("the one who is not at home", x.needed(0, 2), 2);
        due("it is there", sent(THREE_ALIKE, 0).needed(0, 1), 0);
    }

    @Says("none, if it is not so as it is")
    static void part3_noneIsNeededIfItIsNotSo() {
        HeelPost x = sent("t3,4;w0,1,0;w0,2,0;", 2);
        due("not so soon", x.needed(0, 1), 0);
        HeelPost y = sent("t4,4;w0,2,0;", 3);
        due("never", y.needed(0, 99), 0);
        due("all are at home", allAtHome(RELAY, 6).needed(0, 99), 0);
    }

    /** All goes round in two days, 48 hours at most: who meets at all has met behind 47. */
    @Says("MEET of two PEOPLE: behind how many HOURS (0 to 99) they are in one LANE first; NONE.")
    static void part3_meetFirst() {
        HeelPost x = in("t2,24;w0,0,0;m1,0,22;w0,1,0;w1,1,0;");
        due("now", x.meet(0, 2), 0);
        due("in the last hour of day 0", x.meet(0, 1), 23);
        due("never", x.meet(0, 3), NONE);
        due("behind 1", x.meet(2, 1), 1);
        x.hours(24);
        due("in the last hour of day 2", x.meet(0, 1), 47);
        due("the other way round", x.meet(1, 0), 47);
        x.stay(1, 1);
        due("one is at home", x.meet(0, 1), NONE);
        due("with one who is at home", x.meet(3, 1), 0);
    }

    @Says("ANSWER for a LETTER: behind how many HOURS from now an answer, posted at its GOAL when it is there (as LETTER 3, in place of what that is)")
    static void part3_anAnswerAsLetter3() {
        HeelPost x = in("t2,4;w0,1,0;");
        x.post(3, 0, 1);
        due("of letter 3 itself", x.answer(3), 4);
        x.post(0, 0, 1);
        due("in place of letter 3", x.answer(0), 4);
        x.post(2, 1, 0);
        due("letter 2 is ahead of it", x.answer(0), 8);
        due("letter 3 is where it was", x.letter(3, 1), 0);
        x.post(1, 1, 1);
        due("it is there: so is its answer", x.answer(1), 0);
    }

    @Says("is where this one lies now (99 at most each way); NONE.")
    static void part3_anAnswer99EachWay() {
        HeelPost x = sent(CHAIN + "m1,0,5;", 3);
        due("there", x.arrives(0), 99);
        due("99 and 99", x.answer(0), 198);
        x.begin(3, 6);
        due("99 and 100", x.answer(0), NONE);
        x.begin(3, 5);
        x.begin(2, 3);
        due("100 there", x.answer(0), NONE);
        due("no way there", sent("t4,4;w0,2,0;", 3).answer(0), NONE);
        HeelPost y = in("t4,24;w0,1,0;w1,2,5;w2,3,8;");
        y.post(0, 1, 3);
        due("a way back by night, a lane a day", y.answer(0), 48);
        y.stay(1, 1);
        due("all but one", y.answer(0), NONE);
    }

    @Says("A row tells where a LETTER is behind each of n HOURS (1 to 12) from now on.")
    static void part3_aRowTells1To12Hours() {
        HeelPost x = sent("t9,24;w0,8,4;", 8);
        fill(x, 0, 0, 0, 0, 0, 1, 2, 3, 4, 5, 6, 7, 8, 8);
        bounds("who", 1, 12, n -> x.who(0, 0, 0, 0, 0, n));
        bounds("missing", 1, 12, n -> x.missing(0, 0, 0, n));
        bounds("goals", 1, 12, n -> x.goals(0, 0, 0, n));
        due("1: all but one who stays where it lies fit, he too", x.goals(0, 0, 0, 1), 511);
        due("11", x.goals(0, 0, 0, 11), 256 + 128);
        due("12", x.goals(0, 0, 0, 12), 256);
        due("12, as it is", x.missing(0, 0, 0, 12), 64);
        x.set(0, 11, 7);
        due("12, but for the last", x.missing(0, 0, 0, 12), 0);
        due("11, as it is", x.missing(0, 0, 0, 11), 64);
        x.hours(4);
        due("from now on", x.missing(0, 0, 4, 7), 64);
        due("not from before", x.missing(0, 0, 3, 7), 0);
    }

    @Says("A row tells where a LETTER is")
    static void part3_whereNoLetterCanBe() {
        HeelPost x = sent(ONE, 4);
        x.row(0, 2, 1);
        for (int item : new int[] {-1, 5, 256, 65536, LEAST, MOST}) {
            x.set(0, 0, item);
            due("kinds by " + item, x.who(0, 0, 0, 0, 0, 1), 0);
            due("begins by " + item, x.who(0, 1, 0, 0, 0, 1), 0);
            due("missing by " + item, x.missing(0, 0, 0, 1), 0);
            due("goals by " + item, x.goals(0, 0, 0, 1), 0);
        }
    }

    @Says("KINDS (bits 1 to 5), BEGINS (0 to 23, bits) of a PERSON by which it is so.")
    static void part3_kindsAndBeginsThatFit() {
        HeelPost x = sent("t9,24;w0,8,4;", 8);
        fill(x, 0, 0, 0, 0, 0, 0, 0, 0, 0, 0, 0, 0, 0);
        due("all kinds", x.who(0, 0, 0, 0, 0, 1), 62);
        due("begins 1 to 23", x.who(0, 1, 0, 0, 0, 1), 16777214);
        due("begins 12 to 23", x.who(0, 1, 0, 0, 0, 12), 16773120);
        due("no kind", x.who(0, 0, 0, 0, 0, 6), 0);
        fill(x, 1, 1);
        due("begins 0", x.who(0, 1, 0, 1, 0, 1), 1);
        fill(x, 2, 2);
        x.begin(0, 0);
        due("the last kind", x.who(0, 0, 0, 2, 0, 1), 32);
        x.stay(0, 1);
        due("of one at home: all", x.who(0, 0, 0, 0, 0, 12), 62);
        due("of one at home: all", x.who(0, 1, 0, 0, 0, 12), 16777215);
        due("of one at home: none", x.who(0, 0, 0, 1, 0, 1), 0);
    }

    @Says("MISSING: such a row: PEOPLE (bits) who are not AT HOME, one of whom, AT HOME now, makes it so; 64 more, if it is so as it is.")
    static void part3_missing() {
        HeelPost x = sent(RELAY, 6);
        fill(x, 0, 1, 2, 3, 4, 5, 6);
        fill(x, 1, 1, 2, 3, 4, 5, 5);
        fill(x, 2, 0, 0, 0, 0, 0, 0);
        due("as it is", x.missing(0, 0, 0, 6), 64);
        due("as it is, and without any but the first", x.missing(0, 0, 0, 1), 126);
        due("without the last", x.missing(0, 1, 0, 6), 32);
        due("without the first", x.missing(0, 2, 0, 6), 1);
        x.stay(0, 1);
        due("not who is at home: as it is, and without any other", x.missing(0, 2, 0, 6), 126);
        due("neither", x.missing(0, 0, 0, 6), 0);
        HeelPost y = allAtHome(RELAY, 6);
        fill(y, 0, 0);
        due("all are at home: as it is alone", y.missing(0, 0, 0, 1), 64);
        y.set(0, 0, 1);
        due("all are at home: neither", y.missing(0, 0, 0, 1), 0);
    }

    @Says("GOALS (LANES, bits) of it by which it is so.")
    static void part3_goalsThatFit() {
        HeelPost x = sent("t9,24;w0,8,0;", 8);
        fill(x, 0, 0);
        fill(x, 1, 1);
        fill(x, 2, 1, 2, 3, 4, 5, 6, 7, 8);
        due("the first lane, where it lies", x.goals(0, 0, 0, 1), 1);
        due("all others", x.goals(0, 1, 0, 1), 510);
        due("the last lane", x.goals(0, 2, 0, 8), 256);
        due("none", x.goals(0, 2, 1, 1), 0);
        x.stay(0, 1);
        due("all nine", x.goals(0, 0, 0, 1), 511);
    }

    @Says("BUSY in n HOURS (1 to 99): who carries most often (each LETTER, each HOUR)")
    static void part3_busyIn1To99Hours() {
        HeelPost x = in(ONE_MAID);
        bounds("busy", 1, 99, n -> x.busy(n, 0));
        x.post(0, 0, 1);
        x.post(1, 0, 1);
        x.post(2, 0, 1);
        due("1", x.busy(1, 1), 0);
        due("3", x.busy(3, 1), 1);
        due("98", x.busy(98, 1), 2);
        due("99", x.busy(99, 1), 3);
        HeelPost y = in("t3,4;w0,2,0;c0,2,0;");
        y.post(0, 0, 2);
        y.post(1, 0, 2);
        y.post(2, 0, 2);
        due("each letter", y.busy(1, 1), 2);
        due("who", y.busy(1, 0), 1);
        due("each hour", y.busy(2, 1), 4);
    }

    @Says("of several the first; how often.")
    static void part3_ofSeveralWhoAreBusyTheFirst() {
        HeelPost x = sent(RELAY, 6);
        due("all six once: the first", x.busy(6, 0), 0);
        due("how often", x.busy(6, 1), 1);
        x.stay(0, 1);
        x.post(0, 1, 6);
        due("five once: the first of them", x.busy(6, 0), 1);
        x.callBack(0);
        due("nobody, as no letter is out: the first", x.busy(99, 0), 0);
        due("never", x.busy(99, 1), 0);
        HeelPost y = allAtHome(RELAY, 6);
        due("nobody, as all are at home: the first", y.busy(99, 0), 0);
        due("never", y.busy(99, 1), 0);
        HeelPost z = sent("t3,6;w0,0,0;w0,0,0;w0,0,0;w0,0,0;w0,0,0;w0,2,0;", 2);
        due("the last alone", z.busy(2, 0), 5);
        due("how often", z.busy(2, 1), 2);
    }

    @Says("SICK by p of 10 (0 to 10):")
    static void part3_sick0To10Of10() {
        HeelPost x = sent("t2,4;w0,1,0;", 1);
        bounds("sick", 0, 10, p -> x.sick(0, 1, p, 0));
        fraction("0 of 10", x, 1, 0, 1, 1);
        fraction("1 of 10", x, 1, 1, 9, 10);
        fraction("9 of 10", x, 1, 9, 1, 10);
        fraction("10 of 10", x, 1, 10, 0, 1);
        x.post(0, 1, 1);
        fraction("10 of 10, but it is there", x, 0, 10, 1, 1);
    }

    @Says("each PERSON who is not AT HOME is so now in p of 10 cases, apart:")
    static void part3_sickOfThoseWhoAreNotAtHome() {
        HeelPost x = sent("t2,4;" + "w0,1,0;".repeat(6), 1);
        fraction("not all six", x, 1, 3, 999271, 1000000);
        x.stay(0, 1);
        x.stay(1, 1);
        x.stay(2, 1);
        x.stay(3, 1);
        fraction("not both", x, 1, 3, 91, 100);
        x.stay(4, 1);
        fraction("not the last", x, 1, 3, 7, 10);
        x.stay(5, 1);
        fraction("all are at home", x, 99, 3, 0, 1);
        x.post(0, 1, 1);
        fraction("all are at home, and it is there", x, 0, 3, 1, 1);
        fraction("all six are needed", sent(RELAY, 6), 6, 3, 117649, 1000000);
    }

    @Says("how likely a LETTER is at its GOAL behind n HOURS (0 to 99) or less: a fraction")
    static void part3_sickBehind0To99() {
        HeelPost x = sent(CHAIN, 3);
        bounds("sick", 0, 99, n -> x.sick(0, n, 1, 0));
        fraction("0", x, 0, 1, 0, 1);
        fraction("98", x, 98, 1, 0, 1);
        fraction("99", x, 99, 1, 729, 1000);
    }

    @Says("WEEKS of n HOURS (0 to 99) by a SEED (X at first): ahead of each X becomes the rest of (X times 16807) by 2147483647;")
    static void part3_weeksOf0To99Hours() {
        HeelPost x = in(STILL);
        bounds("drawn", 0, 99, n -> x.drawn(n, 1, 0));
        for (int seed : new int[] {1, 2, 999998, 999999}) {
            for (int n = 0; n <= 99; n += n < 90 ? 5 : 1) {
                due("drawn(" + n + ", " + seed + ", 0)", x.drawn(n, seed, 0), thereWhereNobodyGoes(n, seed));
            }
            due("nobody carries", x.drawn(99, seed, 1), 0);
        }
    }

    /** Of nine lanes and nobody who goes: a letter is there only if it is posted in lane 4, for lane 4. */
    private static int thereWhereNobodyGoes(int n, long seed) {
        int there = 0;
        long rest = seed;
        for (int h = 0; h < n; h++) {
            rest = rest * 16807 % 2147483647;
            if (rest % 5 == 0) {
                int bit = 1 << (int) (rest % 4);
                there = rest % 9 == 4 ? there | bit : there & ~bit;
            }
        }
        return Integer.bitCount(there);
    }

    /** From 1 on X is 16807, 282475249, 1622650073, 984943658, 1144108930: letter 2 is posted in the fifth hour. */
    @Says("if X by 5 leaves 0, the LETTER that is the rest of X by 4 is posted in the LANE that is the rest of X by LANES, for the last LANE less that:")
    static void part3_whatIsPostedInWeeks() {
        HeelPost x = in("t2,6;w0,1,4;");
        due("nothing yet", x.drawn(4, 1, 1), 0);
        due("posted and carried in the fifth hour", x.drawn(5, 1, 1), 1);
        due("it is there", x.drawn(5, 1, 0), 1);
        x.post(2, 1, 1);
        due("the one that is out is there", x.drawn(4, 1, 0), 1);
        x.post(3, 1, 1);
        due("in place of the one that is out", x.drawn(5, 1, 1), 1);
        due("both are there", x.drawn(5, 1, 0), 2);
    }

    @Says("how many are OUT, at their GOALS, then; how often one was carried")
    static void part3_weeksOfNoHours() {
        HeelPost x = in("t5,6;w0,4,0;");
        due("none is out", x.drawn(0, 1, 0), 0);
        due("none is carried", x.drawn(0, 1, 1), 0);
        for (int l = 0; l < 4; l++) {
            x.post(l, l, l);
        }
        due("all are there", x.drawn(0, 999999, 0), 4);
        x.post(0, 0, 4);
        due("all but one are there", x.drawn(0, 999999, 0), 3);
        due("carried in the first hour", x.drawn(1, 1, 1), 1);
        due("carried in four", x.drawn(4, 1, 1), 4);
        due("all are there", x.drawn(4, 1, 0), 4);
    }

    @Says("KINDS of PEOPLE: 0 PERSON; 1 WALKER, a PERSON; 2 CHILD, a WALKER; 3 DRUNKARD, a WALKER; 4 MAID, a PERSON; 5 BLIND, a MAID.")
    static void part3_kindsOfPeople() {
        HeelPost x = in(FIVE);
        String[] are = {"01", "012", "013", "04", "045"};
        for (int p = 0; p < 5; p++) {
            for (int kind = 0; kind <= 5; kind++) {
                due(p + " as " + kind, x.as(p, kind), are[p].indexOf('0' + kind) >= 0 ? p : KIND);
            }
        }
    }

    @Says("By this it is asked.")
    static void part3_byKindsItIsAsked() {
        HeelPost x = in(FIVE);
        asked(x, 0, 1, 0, 21, 20);
        asked(x, 1, 1, 10, 24, 21, 20);
        asked(x, 2, 1, -997, 22, 21, 20);
        asked(x, 3, 1, 103, 23, 20, 13, 10);
        asked(x, 4, 0, -196, 14, 13, 10);
    }

    // ---------------------------------------------------------------- ======== 4

    @Says("ASKS of PEOPLE, by BODIES, each of which leaves its number in THE TRACE as it begins (the first 16)")
    static void part4_theTraceOfTheLongestAsk() {
        HeelPost x = in(FIVE);
        asked(x, 1, 0, -10, 12, 11, 10, 24, 21, 20);
        dueOfEach(NONE, "trace", i -> x.trace(i), 6, 7, 15, 16, 17);
    }

    @Says("0 SIZE: 10 lent to all PEOPLE: BEGINS.")
    static void part4_sizeAtTheEndsOfBegins() {
        HeelPost x = in("t5,24;m0,4,0;m0,4,23;b0,4,0;b0,4,23;");
        asked(x, 0, 0, -100, 13, 10);
        asked(x, 1, 0, -77, 13, 10);
        asked(x, 2, 0, -200, 14, 13, 10);
        asked(x, 3, 0, -154, 14, 13, 10);
    }

    /** In FIVE ahead of the first hour: 0 w begins 1, is in 0; 1 c 0, in 4; 2 d 0, in 1; 3 m 0; 4 b 2. */
    @Says("11 of WALKERS: what 10 gives, and MARK. 12 of CHILDREN: 0 less what 11 gives. 13 of MAIDS: what 10 gives, less 100. 14 of BLIND ones: what 13 gives, twice.")
    static void part4_whatSizeGives() {
        HeelPost x = in(FIVE);
        int[] sizes = {1 + 0, -(0 + 10), 0 - 997, 0 - 100, (2 - 100) * 2};
        for (int p = 0; p < 5; p++) {
            due("size of " + p, x.ask(p, 0), sizes[p]);
        }
    }

    @Says("1 MARK: 20 lent to all PEOPLE: the number. 21 of WALKERS: what 20 gives, and where he is. 22 of DRUNKARDS: what 21 gives, less 1000. 23 of MAIDS: what 20 gives, less SIZE. 24 of CHILDREN: what 21 gives, twice.")
    static void part4_whatMarkGives() {
        HeelPost x = in(FIVE);
        int[] marks = {0 + 0, (1 + 4) * 2, 2 + 1 - 1000, 3 + 100, 4 + 196};
        for (int p = 0; p < 5; p++) {
            due("mark of " + p, x.ask(p, 1), marks[p]);
        }
    }

    @Says("21 of WALKERS: what 20 gives, and where he is.")
    static void part4_markWhereHeIs() {
        HeelPost x = in("t9,24;" + "w8,8,0;".repeat(5) + "w0,8,0;");
        asked(x, 5, 1, 5, 21, 20);
        x.hours(8);
        asked(x, 5, 1, 13, 21, 20);
        asked(x, 5, 0, 13, 11, 10, 21, 20);
        x.stay(5, 1);
        asked(x, 5, 1, 5, 21, 20);
    }

    @Says("(Of an ask the BODY told for the KIND begins, else that of the nearest KIND that it is, too, else the one that is lent;")
    static void part4_whereNoBodyIsToldForTheKind() {
        HeelPost x = in(FIVE);
        asked(x, 2, 0, -997, 11, 10, 22, 21, 20);
        asked(x, 4, 1, 200, 23, 20, 14, 13, 10);
    }

    @Says("(Of an ask the BODY told for the KIND begins,")
    static void part4_theBodyToldForTheKind() {
        HeelPost x = in(FIVE);
        int[][] first = {{11, 21}, {12, 24}, {11, 22}, {13, 23}, {14, 23}};
        for (int p = 0; p < 5; p++) {
            for (int what = 0; what <= 1; what++) {
                x.ask(p, what);
                due("first of ask(" + p + ", " + what + ")", x.trace(0), first[p][what]);
            }
        }
    }

    @Says("SIZE, MARK within others are asked of the same PERSON anew.)")
    static void part4_askedAnewOfTheSamePerson() {
        HeelPost x = in(FIVE);
        asked(x, 0, 0, 1, 11, 10, 21, 20);
        asked(x, 1, 0, -10, 12, 11, 10, 24, 21, 20);
        asked(x, 2, 0, -997, 11, 10, 22, 21, 20);
        asked(x, 3, 1, 103, 23, 20, 13, 10);
        asked(x, 4, 1, 200, 23, 20, 14, 13, 10);
    }
}
