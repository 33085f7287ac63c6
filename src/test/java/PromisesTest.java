/** Each promise of the document, with answers that were worked out by hand from its words. */
public final class PromisesTest extends Checks {
    public static void main(String[] args) {
        aNewObject();
        rows();
        setting();
        copying();
        dropping();
        feeding();
        reading();
        faults();
        undoing();
        hours();
        posting();
        callingBack();
        beginning();
        staying();
        people();
        letters();
        lanes();
        aheadOfPeople();
        aheadOfLetters();
        arriving();
        carrying();
        bestHours();
        spots();
        cutOff();
        crews();
        needed();
        meeting();
        answers();
        who();
        missing();
        goals();
        busy();
        sick();
        drawn();
        images();
        restoring();
        kinds();
        taken();
        asking();
        traced();
        counted();
        statuses();
        end();
    }

    /** Three letters: 0 is there behind 5 hours, 1 behind 4, 2 behind 4 by the blind one and the drunkard. */
    private static HeelPost inFive() {
        HeelPost x = in(FIVE);
        x.post(0, 0, 4);
        x.post(1, 4, 0);
        x.post(2, 0, 3);
        return x;
    }

    private static void aNewObject() {
        test = "promise 1";
        HeelPost x = new HeelPost();
        for (int what = 0; what <= 7; what++) {
            due("count(" + what + ")", x.count(what), 0);
        }
        due("status", x.status(), 0);
        due("fault", x.fault(), 0);
        due("trace", x.trace(0), NONE);
        due("undo", x.undo(), STATE);
        due("person", x.person(0, 0), BAD);
        due("letter", x.letter(0, 0), BAD);
        due("lane", x.lane(0), BAD);
        due("hours", x.hours(0), STATE);
        due("busy", x.busy(0, 9), STATE);
        due("drawn", x.drawn(-1, 0, 9), STATE);
        due("cutOff", x.cutOff(), STATE);
        due("sick", x.sick(0, 0, 0, 0), BAD);
    }

    private static void rows() {
        test = "promise 2";
        HeelPost x = in(STILL);
        due("row of none", x.row(0, 0, 0), 0);
        due("row of 40", x.row(7, 2, 40), 40);
        due("count", x.count(0), 2);
        int[][] bad = {{8, 0, 1}, {-1, 0, 1}, {0, 3, 1}, {0, -1, 1}, {0, 0, 41}, {MOST, 0, 0}, {0, LEAST, 0},
            {0, 0, MOST}, {8, 0, -1}, {0, 3, -1}};
        for (int[] b : bad) {
            due("bad row", x.row(b[0], b[1], b[2]), BAD);
        }
        due("status", x.status(), 0);
        x.row(1, 0, 3);
        x.set(1, 2, 5);
        due("row of fewer than none", x.row(1, 2, -1), SIZE);
        due("status", x.status(), 4);
        due("the row stays", item(x, 1, 2), 5);
        due("row of fewer than none", x.row(1, 0, LEAST), SIZE);
        due("in its place", x.row(1, 0, 4), 4);
        due("items are 0 at first", item(x, 1, 2), 0);
        x.set(1, 0, 8);
        x.row(1, 0, 4);
        due("items are 0 at first", item(x, 1, 0), 0);
        due("no item more", x.set(1, 4, 1), PLACE);
        due("the last item", x.set(1, 3, 1), 1);
    }

    private static void setting() {
        test = "promise 3";
        HeelPost x = in(STILL);
        x.row(0, 0, 2);
        x.row(1, 1, 2);
        x.row(2, 2, 2);
        int[][] bytes = {{127, 127}, {128, -128}, {255, -1}, {256, 0}, {-129, 127}, {MOST, -1}, {LEAST, 0}};
        for (int[] v : bytes) {
            due("set a byte to " + v[0], x.set(0, 0, v[0]), v[1]);
        }
        int[][] shorts = {{32767, 32767}, {32768, -32768}, {65535, -1}, {65536, 0}, {40000, -25536}};
        for (int[] v : shorts) {
            due("set a short to " + v[0], x.set(1, 1, v[0]), v[1]);
        }
        due("set an int", x.set(2, 1, MOST), MOST);
        due("set an int", x.set(2, 1, LEAST), LEAST);
        x.set(0, 1, 7);
        due("what was set", item(x, 0, 1), 7);
        due("set of no row", x.set(8, 0, 0), BAD);
        due("set of no row", x.set(-1, 0, 0), BAD);
        due("status", x.status(), 0);
        due("set of a missing row", x.set(3, 9, 0), NULL);
        due("status", x.status(), 1);
        due("set of no place", x.set(0, 2, 3), PLACE);
        due("set of no place", x.set(0, -1, 3), PLACE);
        due("set of no place", x.set(0, LEAST, 3), PLACE);
        due("set of no place", x.set(0, MOST, 3), PLACE);
        due("status", x.status(), 2);
        due("what was set stays", item(x, 0, 1), 7);
    }

    private static void copying() {
        test = "promise 4";
        HeelPost x = in(STILL);
        fill(x, 0, 1, 2, 3, 4);
        fill(x, 1, 5, 6);
        x.row(2, 1, 4);
        due("copy within a row", x.copy(0, 0, 0, 1, 3), 3);
        due("first", item(x, 0, 0), 1);
        due("second", item(x, 0, 1), 1);
        due("third, as it was ahead", item(x, 0, 2), 2);
        due("fourth, as it was ahead", item(x, 0, 3), 3);
        due("copy backwards", x.copy(0, 1, 0, 0, 3), 3);
        due("first", item(x, 0, 0), 1);
        due("second", item(x, 0, 1), 2);
        due("third", item(x, 0, 2), 3);
        due("copy to another", x.copy(1, 0, 0, 2, 2), 2);
        due("from another", item(x, 0, 3), 6);
        due("copy of none at the ends", x.copy(0, 4, 1, 2, 0), 0);
        due("copy of no row", x.copy(8, 0, 0, 0, 0), BAD);
        due("copy of no row", x.copy(0, 0, -1, 0, 0), BAD);
        due("copy of a missing row", x.copy(3, -1, 2, 0, 0), NULL);
        due("copy to a missing row", x.copy(2, 0, 3, -1, 0), NULL);
        due("copy of two lanes, ahead of the place", x.copy(0, -1, 2, 0, 0), STORE);
        due("status", x.status(), 5);
        int[][] places = {{-1, 0, 0}, {0, -1, 0}, {0, 0, -1}, {3, 0, 2}, {0, 1, 2}, {5, 0, 0}, {0, 3, 0},
            {MOST, 0, MOST}, {0, MOST, MOST}, {1, 0, MOST}, {LEAST, 0, 1}, {0, 0, LEAST}};
        for (int[] p : places) {
            due("copy of no place", x.copy(0, p[0], 1, p[1], p[2]), PLACE);
        }
        due("status", x.status(), 2);
        due("nothing came", item(x, 1, 0), 5);
    }

    private static void dropping() {
        test = "promise 5";
        HeelPost x = new HeelPost();
        x.row(4, 1, 17);
        due("drop", x.drop(4), 17);
        due("drop again", x.drop(4), NULL);
        due("status", x.status(), 1);
        due("set of what was dropped", x.set(4, 0, 0), NULL);
        due("count", x.count(0), 0);
        due("drop of no row", x.drop(8), BAD);
        due("drop of no row", x.drop(-1), BAD);
    }

    private static void feeding() {
        test = "promise 6";
        HeelPost x = new HeelPost();
        due("feed", x.feed(0), 1);
        due("feed", x.feed(255), 2);
        due("feed of no byte", x.feed(256), BAD);
        due("feed of no byte", x.feed(-1), BAD);
        for (int i = 3; i <= 120; i++) {
            due("feed", x.feed('t'), i);
        }
        due("feed beyond", x.feed('t'), FULL);
        due("BAD is ahead of FULL", x.feed(256), BAD);
        due("count", x.count(7), 120);
    }

    private static void reading() {
        test = "promise 7";
        HeelPost x = in("t02,04;w00,01,05;");
        due("lanes", x.count(1), 2);
        due("begins", x.person(0, 2), 5);
        due("to", x.person(0, 1), 1);
        x.post(1, 0, 1);
        x.hours(3);
        x.stay(0, 1);
        feed(x, "t2,4;w0,1,24;");
        due("a fault", x.town(), -1000100 - 10);
        due("the tape is empty", x.count(7), 0);
        due("all stays: hour", x.count(3), 3);
        due("all stays: letters", x.count(4), 2);
        due("all stays: home", x.count(5), 1);
        due("all stays: acts", x.count(6), 5);
        feed(x, "t9,24;w8,8,23;c0,0,0;d0,0,0;m0,0,0;b0,0,0;w8,0,0;");
        due("six people", x.town(), 6);
        due("lanes", x.count(1), 9);
        due("hour", x.count(3), 0);
        due("letters", x.count(4), 0);
        due("home", x.count(5), 0);
        due("acts", x.count(6), 0);
        due("undo", x.undo(), STATE);
        due("tape", x.count(7), 0);
        due("the empty tape", x.town(), -1000100);
        due("one person", tell(x, "t4,4;c3,0,0;"), 1);
        due("the new one", x.person(1, 0), BAD);
    }

    private static void faults() {
        test = "promise 8";
        HeelPost x = new HeelPost();
        Object[][] texts = {
            {"w", 0, 1}, {"t", 1, 1}, {"T2,4;w0,1,0;", 0, 1}, {" t2,4;w0,1,0;", 0, 1}, {"tt", 1, 1},
            {"t1,4;w0,0,0;", 1, 2}, {"t10,4;", 1, 2}, {"t100,4;", 1, 1}, {"t002,4;w0,0,0;", 1, 1}, {"t,4;", 1, 1},
            {"t2;4;", 2, 1}, {"t2,3;", 3, 2}, {"t2,25;", 3, 2}, {"t2,240;", 3, 1}, {"t2,4,", 4, 1}, {"t2,4", 4, 1},
            {"t2,4;", 5, 1}, {"t2,4;q0,0,0;", 5, 1}, {"t2,4;t", 5, 1}, {"t2,4;0", 5, 1}, {"t2,4;;", 5, 1},
            {"t2,4;w2,0,0;", 6, 2}, {"t9,4;w9,0,0;", 6, 2}, {"t2,4;w0,2,0;", 8, 2}, {"t2,4;w0,1,24;", 10, 2},
            {"t2,4;w0,1,123;", 10, 1}, {"t2,4;w0,1,1234;", 10, 1}, {"t2,4;w0,1,0", 11, 1}, {"t2,4;w0,1,0,", 11, 1},
            {"t2,4;ww", 6, 1}, {"t2,4;w0 ,1,0;", 7, 1}, {"t2,4;w0,1,0;w", 13, 1}, {"t2,4;w0,1,0;t", 12, 1},
            {"t2,4;w0,1,0;;", 12, 1}, {"t2,4;w0,1,0;7", 12, 1}, {"t2,4;w-1", 6, 1}, {"t2,4;w0,1,0;\u0000", 12, 1},
            {"t1,99;\u00ff", 1, 2}};
        for (Object[] t : texts) {
            due("town of " + t[0], tell(x, (String) t[0]), -1000100 - (Integer) t[1]);
            due("fault of " + t[0], x.fault(), (Integer) t[2]);
        }
        String six = "t2,4;w0,1,0;w0,1,0;w0,1,0;w0,1,0;w0,1,0;w0,1,0;";
        due("six", tell(x, six), 6);
        due("the latest fault", x.fault(), 2);
        due("a seventh", tell(x, six + "b"), -1000100 - 47);
        due("its fault", x.fault(), 3);
        due("a seventh that is none", tell(x, six + "x"), -1000100 - 47);
        due("the least", x.fault(), 1);
        due("a figure for a seventh", tell(x, six + "0"), -1000100 - 47);
        due("the least", x.fault(), 1);
    }

    private static void undoing() {
        test = "promise 9";
        HeelPost x = in(ONE);
        due("none", x.undo(), STATE);
        x.post(2, 0, 4);
        x.hours(3);
        x.begin(0, 3);
        x.stay(0, 1);
        x.callBack(2);
        due("acts", x.count(6), 7);
        due("undo what was called back", x.undo(), 6);
        due("where it was", x.letter(2, 1), 2);
        due("undo what stays", x.undo(), 5);
        due("nobody", x.count(5), 0);
        due("undo what begins", x.undo(), 4);
        due("begins", x.person(0, 2), 1);
        due("undo an hour", x.undo(), 3);
        due("hour", x.count(3), 2);
        due("where it was", x.letter(2, 1), 1);
        x.post(2, 4, 3);
        due("undo what was posted in its place", x.undo(), 3);
        due("where it was", x.letter(2, 1), 1);
        due("its goal", x.letter(2, 2), 4);
        x.undo();
        due("undo an hour", x.undo(), 1);
        due("undo what was posted", x.undo(), 0);
        due("none is out", x.count(4), 0);
        due("none", x.undo(), STATE);
        x.begin(0, 9);
        x.hours(24);
        due("24 at most", x.count(6), 24);
        x.stay(0, 1);
        due("24 at most", x.count(6), 24);
        for (int left = 23; left >= 0; left--) {
            due("undo", x.undo(), left);
        }
        due("the oldest are forgotten", x.undo(), STATE);
        due("hour", x.count(3), 1);
        due("begins", x.person(0, 2), 9);
        x.begin(0, 9);
        due("to begin as before is an act", x.count(6), 1);
    }

    private static void hours() {
        test = "promise 10";
        HeelPost x = inFive();
        due("bad", x.hours(0), BAD);
        due("bad", x.hours(25), BAD);
        due("bad", x.hours(LEAST), BAD);
        due("three", x.hours(3), 0);
        due("letter 0", x.letter(0, 1), 2);
        due("letter 1", x.letter(1, 1), 1);
        due("letter 2 by the blind one", x.letter(2, 1), 2);
        due("one more", x.hours(1), 6);
        due("one more", x.hours(1), 7);
        due("hour", x.count(3), 5);
        due("acts", x.count(6), 8);
        x.post(3, 0, 2);
        due("beyond the goal, at night", x.hours(1), 15);
        due("the goal at most", x.letter(3, 1), 2);
        HeelPost y = in("t3,4;c0,2,0;w0,2,0;");
        for (int l = 0; l < 4; l++) {
            y.post(l, 0, 2);
        }
        y.hours(1);
        due("a child carries two", y.letter(1, 1), 1);
        due("the next carries one", y.letter(2, 1), 1);
        due("nobody carries the last", y.letter(3, 1), 0);
        due("a child carries two in each hour", y.hours(1), 7);
        HeelPost z = in(ONE);
        for (int i = 0; i < 41; i++) {
            z.hours(24);
        }
        due("hour", z.count(3), 984);
        due("above 999", z.hours(16), FULL);
        due("nothing changes", z.count(3), 984);
        due("to 999", z.hours(15), 0);
        due("above 999", z.hours(1), FULL);
        due("BAD is ahead of FULL", z.hours(25), BAD);
        due("where he will be", z.person(0, 4), 3);
        due("ahead is not bound", z.ahead(0, 99), 0);
    }

    private static void posting() {
        test = "promise 11";
        HeelPost x = in(ONE);
        due("post", x.post(1, 0, 4), 2);
        due("post", x.post(3, 4, 0), 10);
        due("in its place", x.post(1, 2, 2), 10);
        due("where", x.letter(1, 1), 2);
        due("goal", x.letter(1, 2), 2);
        due("acts", x.count(6), 3);
        int[][] bad = {{4, 0, 0}, {-1, 0, 0}, {0, 5, 0}, {0, -1, 0}, {0, 0, 5}, {0, 0, -1}, {MOST, 0, 0}};
        for (int[] b : bad) {
            due("bad", x.post(b[0], b[1], b[2]), BAD);
        }
        due("nothing changes", x.count(6), 3);
    }

    private static void callingBack() {
        test = "promise 12";
        HeelPost x = in(ONE);
        x.post(1, 3, 4);
        due("call back", x.callBack(1), 3);
        due("out", x.count(4), 0);
        due("again", x.callBack(1), STATE);
        due("bad", x.callBack(4), BAD);
        due("bad", x.callBack(-1), BAD);
        due("acts", x.count(6), 2);
    }

    private static void beginning() {
        test = "promise 13";
        HeelPost x = in(ONE);
        due("begin", x.begin(0, 23), 1);
        due("begin", x.begin(0, 0), 23);
        due("ahead", x.ahead(0, 1), 1);
        due("bad", x.begin(0, 24), BAD);
        due("bad", x.begin(0, -1), BAD);
        due("bad", x.begin(1, 0), BAD);
        due("bad", x.begin(-1, 0), BAD);
        due("acts", x.count(6), 2);
    }

    private static void staying() {
        test = "promise 14";
        HeelPost x = in(FIVE);
        x.hours(3);
        due("stay", x.stay(4, 1), 16);
        due("stay", x.stay(0, 1), 17);
        due("where", x.person(0, 3), 0);
        due("it is so", x.stay(0, 1), STATE);
        due("no more", x.stay(0, 0), 16);
        due("where", x.person(0, 3), 2);
        due("it is so", x.stay(0, 0), STATE);
        due("bad", x.stay(0, 2), BAD);
        due("bad", x.stay(0, -1), BAD);
        due("bad", x.stay(5, 1), BAD);
        due("bad", x.stay(-1, 1), BAD);
        due("acts", x.count(6), 6);
    }

    private static void people() {
        test = "promise 15";
        int[][][] places = {
            {{0, 0, 1, 2, 3, 4}, {0, 0, 1, 2, 3, 4}}, {{4, 3, 2, 1, 0, 0}, {4, 3, 2, 1, 0, 0}},
            {{1, 1, 2, 2, 3, 3}, {1, 1, 2, 2, 3, 3}}, {{2, 1, 0, 0, 0, 0}, {2, 2, 2, 2, 2, 2}},
            {{0, 0, 0, 2, 3, 3}, {0, 0, 0, 0, 0, 0}}};
        HeelPost x = in(FIVE);
        for (int h = 0; h < 24; h++) {
            for (int p = 0; p < 5; p++) {
                due("where " + p + " is at " + h, x.person(p, 3), places[p][h / 6 % 2][h % 6]);
                int n = h + 1;
                due("where " + p + " will be behind " + h, x.person(p, 4), places[p][n / 6 % 2][n % 6]);
            }
            x.hours(1);
        }
        due("from", x.person(1, 0), 4);
        due("to", x.person(1, 1), 0);
        due("begins", x.person(4, 2), 2);
        due("not at home", x.person(4, 5), 0);
        x.stay(4, 1);
        due("at home", x.person(4, 5), 1);
        due("bad", x.person(5, 0), BAD);
        due("bad", x.person(-1, 0), BAD);
        due("bad", x.person(0, 6), BAD);
        due("bad", x.person(0, -1), BAD);
        HeelPost y = in("t9,24;d8,2,2;b0,7,0;");
        due("half of what he is late, not of the way", y.ahead(0, 14), 2);
        due("half, cut", y.ahead(0, 13), 3);
        due("twice", y.ahead(1, 3), 6);
        due("no more than there are between", y.ahead(1, 4), 7);
    }

    private static void letters() {
        test = "promise 16";
        HeelPost x = inFive();
        due("out", x.letter(0, 0), 1);
        due("not out", x.letter(3, 0), 0);
        due("where", x.letter(1, 1), 4);
        due("goal", x.letter(2, 2), 3);
        due("nobody", x.letter(0, 3), NONE);
        due("the child", x.letter(1, 3), 1);
        x.hours(2);
        due("who walks", x.letter(0, 3), 0);
        due("the blind one", x.letter(2, 3), 4);
        x.hours(1);
        due("the first", x.letter(0, 3), 0);
        due("the drunkard, as the first carries all he can", x.letter(2, 3), 2);
        x.hours(2);
        due("it is there", x.letter(0, 3), NONE);
        due("not out", x.letter(3, 1), BAD);
        due("not out", x.letter(3, 2), BAD);
        due("not out", x.letter(3, 3), BAD);
        due("bad", x.letter(0, 4), BAD);
        due("bad", x.letter(0, -1), BAD);
        due("bad", x.letter(4, 0), BAD);
        due("bad", x.letter(-1, 0), BAD);
    }

    private static void lanes() {
        test = "promise 17";
        HeelPost x = in(FIVE);
        int[] bits = {17, 4, 8, 0, 2};
        for (int l = 0; l < 5; l++) {
            due("lane " + l, x.lane(l), bits[l]);
        }
        x.hours(3);
        due("lane 2", x.lane(2), 1 + 4 + 16);
        x.stay(4, 1);
        due("lane 2", x.lane(2), 1 + 4);
        due("lane 0", x.lane(0), 8 + 16);
        due("bad", x.lane(5), BAD);
        due("bad", x.lane(-1), BAD);
    }

    private static void aheadOfPeople() {
        test = "promise 18";
        HeelPost x = in(FIVE);
        x.hours(2);
        due("now", x.ahead(0, 0), 1);
        due("ahead", x.ahead(0, 3), 4);
        due("ahead", x.ahead(0, 4), 0);
        due("the maid on an odd day", x.ahead(3, 6), 2);
        due("the maid on an even day", x.ahead(3, 12), 0);
        due("99", x.ahead(0, 99), 4);
        x.stay(0, 1);
        due("at home", x.ahead(0, 3), 0);
        due("nothing changes", x.count(3), 2);
        due("bad", x.ahead(0, 100), BAD);
        due("bad", x.ahead(0, -1), BAD);
        due("bad", x.ahead(5, 0), BAD);
        due("bad", x.ahead(-1, 0), BAD);
    }

    private static void aheadOfLetters() {
        test = "promise 19";
        HeelPost x = inFive();
        due("now", x.letterAhead(0, 0), 0);
        due("ahead", x.letterAhead(0, 3), 2);
        due("ahead", x.letterAhead(2, 2), 0);
        due("ahead", x.letterAhead(2, 3), 2);
        due("ahead", x.letterAhead(2, 4), 3);
        due("99", x.letterAhead(1, 99), 0);
        due("nothing changes", x.letter(0, 1), 0);
        due("nothing changes", x.count(6), 3);
        refusals("letterAhead", x.letterAhead(4, 0), x.letterAhead(-1, 0), x.letterAhead(3, 0));
        due("bad", x.letterAhead(0, 100), BAD);
        due("BAD is ahead of STATE", x.letterAhead(3, -1), BAD);
    }

    private static void refusals(String call, long above, long below, long notOut) {
        due(call + " of no letter", above, BAD);
        due(call + " of no letter", below, BAD);
        due(call + " of one that is not out", notOut, STATE);
    }

    private static void arriving() {
        test = "promise 20";
        HeelPost x = inFive();
        due("arrives", x.arrives(0), 5);
        due("arrives", x.arrives(1), 4);
        due("arrives", x.arrives(2), 4);
        refusals("arrives", x.arrives(4), x.arrives(-1), x.arrives(3));
        x.hours(5);
        due("it is there", x.arrives(0), 0);
        HeelPost y = in("t4,24;m0,1,22;m1,2,20;m2,3,2;");
        y.post(0, 0, 3);
        due("behind 99 hours, by one lane in two days", y.arrives(0), 99);
        y.begin(2, 3);
        due("behind 100", y.arrives(0), NONE);
        y.stay(0, 1);
        due("never", y.arrives(0), NONE);
    }

    private static void carrying() {
        test = "promise 21";
        HeelPost x = inFive();
        due("carriers", x.carriers(0, 99), 1);
        due("carriers", x.carriers(2, 2), 0);
        due("carriers", x.carriers(2, 3), 16);
        due("carriers", x.carriers(2, 4), 20);
        refusals("carriers", x.carriers(4, 1), x.carriers(-1, 1), x.carriers(3, 1));
        due("bad", x.carriers(0, 0), BAD);
        due("bad", x.carriers(0, 100), BAD);
        due("BAD is ahead of STATE", x.carriers(3, 0), BAD);
    }

    private static void bestHours() {
        test = "promise 22";
        HeelPost x = in(ONE);
        due("k, the last", x.bestHour(0, 4, 0), 1);
        due("behind", x.bestHour(0, 4, 1), 5);
        due("k by night", x.bestHour(4, 0, 0), 5);
        due("behind", x.bestHour(4, 0, 1), 6);
        due("never", x.bestHour(1, 0, 0), NONE);
        due("never", x.bestHour(1, 0, 1), NONE);
        x.hours(2);
        due("k from now", x.bestHour(0, 4, 0), 5);
        due("behind, from now", x.bestHour(0, 4, 1), 9);
        x.undo();
        x.undo();
        x.post(0, 0, 4);
        due("another is ahead of it", x.bestHour(0, 4, 1), 11);
        due("k, the last of all", x.bestHour(0, 4, 0), 5);
        x.callBack(0);
        x.post(2, 0, 4);
        due("another is ahead of it", x.bestHour(0, 4, 1), 11);
        x.callBack(2);
        x.post(3, 0, 4);
        due("in place of what it is", x.bestHour(0, 4, 1), 5);
        due("nothing changes", x.letter(3, 1), 0);
        int[][] bad = {{0, 0, 0}, {5, 0, 0}, {-1, 0, 0}, {0, 5, 0}, {0, -1, 0}, {0, 1, 2}, {0, 1, -1}};
        for (int[] b : bad) {
            due("bad", x.bestHour(b[0], b[1], b[2]), BAD);
        }
        HeelPost y = in("t4,24;m0,1,22;m1,2,20;m2,3,3;");
        due("100 at best, those k with", y.bestHour(0, 3, 0), NONE);
        y.begin(2, 2);
        due("99 at best", y.bestHour(0, 3, 1), 99);
        due("k", y.bestHour(0, 3, 0), 22);
    }

    private static void spots() {
        test = "promise 23";
        HeelPost x = in(ONE);
        due("spots", x.spots(4, 5), 31);
        due("spots", x.spots(4, 4), 16);
        due("spots", x.spots(0, 6), 17);
        due("spots", x.spots(0, 5), 1);
        x.post(0, 0, 4);
        due("another is ahead of it", x.spots(4, 5), 16);
        due("a day later", x.spots(4, 11), 31);
        x.callBack(0);
        x.post(2, 0, 4);
        due("another is ahead of it", x.spots(4, 5), 16);
        x.callBack(2);
        x.post(0, 0, 4);
        x.callBack(0);
        x.post(3, 0, 4);
        due("in place of what it is", x.spots(4, 5), 31);
        due("bad", x.spots(5, 1), BAD);
        due("bad", x.spots(-1, 1), BAD);
        due("bad", x.spots(0, 0), BAD);
        due("bad", x.spots(0, 100), BAD);
    }

    private static void cutOff() {
        test = "promise 24";
        HeelPost x = in("t5,6;w1,3,0;");
        due("cut off", x.cutOff(), 17);
        x.stay(0, 1);
        due("all", x.cutOff(), 31);
        due("none", in(ONE).cutOff(), 0);
        HeelPost y = in("t2,4;m0,1,0;");
        y.hours(1);
        due("from the last lane, and on the next even day", y.cutOff(), 0);
    }

    private static void crews() {
        test = "promise 25";
        HeelPost x = inFive();
        due("how many", x.crew(2, 6, 0), 1);
        due("which, the least: the child at night", x.crew(2, 6, 1), 2);
        due("two, as the other letter is ahead of it", x.crew(2, 5, 0), 2);
        due("which", x.crew(2, 5, 1), 17);
        due("none", x.crew(2, 3, 0), NONE);
        due("none", x.crew(2, 3, 1), NONE);
        x.stay(4, 1);
        due("not who is at home", x.crew(2, 5, 0), NONE);
        x.stay(4, 0);
        x.post(3, 2, 2);
        due("it is there", x.crew(3, 1, 0), 0);
        due("it is there", x.crew(3, 1, 1), 0);
        x.callBack(3);
        HeelPost y = in("t3,4;w0,1,0;w1,2,1;w0,1,0;");
        y.post(0, 0, 2);
        due("two", y.crew(0, 2, 0), 2);
        due("the least two", y.crew(0, 2, 1), 3);
        y.stay(0, 1);
        due("the other two", y.crew(0, 2, 1), 6);
        tell(y, "t3,4;w0,1,0;w1,2,1;");
        y.post(0, 0, 2);
        due("all", y.crew(0, 2, 1), 3);
        tell(y, "t3,4;w0,1,0;w1,2,1;w0,2,0;");
        y.post(0, 0, 2);
        due("the fewest are ahead of the least", y.crew(0, 2, 1), 4);
        refusals("crew", x.crew(4, 1, 0), x.crew(-1, 1, 0), x.crew(3, 1, 0));
        due("bad", x.crew(0, 0, 0), BAD);
        due("bad", x.crew(0, 100, 0), BAD);
        due("bad", x.crew(0, 1, 2), BAD);
        due("BAD is ahead of STATE", x.crew(3, 1, -1), BAD);
    }

    private static void needed() {
        test = "promise 26";
        HeelPost x = inFive();
        due("the blind one, and who takes the other letter", x.needed(2, 5), 17);
        due("it is not so", x.needed(2, 3), 0);
        due("who walks", x.needed(0, 5), 1);
        x.post(3, 1, 1);
        due("it is there", x.needed(3, 9), 0);
        x.callBack(3);
        refusals("needed", x.needed(4, 1), x.needed(-1, 1), x.needed(3, 1));
        due("bad", x.needed(0, 0), BAD);
        due("bad", x.needed(0, 100), BAD);
        HeelPost y = in("t3,4;w0,2,0;w0,2,0;");
        y.post(0, 0, 2);
        due("either", y.needed(0, 2), 0);
        y.stay(0, 1);
        due("the other, not who is at home", y.needed(0, 2), 2);
    }

    private static void meeting() {
        test = "promise 27";
        HeelPost x = in(FIVE);
        due("now", x.meet(0, 4), 0);
        due("meet", x.meet(0, 2), 3);
        due("on the odd day", x.meet(0, 3), 9);
        due("on the odd day", x.meet(3, 0), 9);
        due("they pass by", x.meet(0, 1), NONE);
        x.stay(1, 1);
        due("at home", x.meet(0, 1), 5);
        due("bad", x.meet(0, 0), BAD);
        due("bad", x.meet(5, 0), BAD);
        due("bad", x.meet(0, 5), BAD);
        due("bad", x.meet(-1, 0), BAD);
        due("bad", x.meet(0, -1), BAD);
    }

    private static void answers() {
        test = "promise 28";
        HeelPost x = inFive();
        due("answer", x.answer(0), 6);
        due("answer", x.answer(1), 6);
        refusals("answer", x.answer(4), x.answer(-1), x.answer(3));
        HeelPost y = in(ONE);
        y.post(3, 0, 4);
        due("in place of what it is", y.answer(3), 6);
        y.post(0, 1, 4);
        due("back from beyond where it lies", y.answer(0), 6);
        y.post(0, 0, 3);
        due("no way back", y.answer(0), NONE);
        y.post(0, 2, 2);
        due("it is there", y.answer(0), 0);
        y.post(1, 1, 0);
        due("no way there", y.answer(1), NONE);
        HeelPost z = in("t4,24;m0,1,22;m1,2,20;m2,3,2;w3,0,3;");
        z.post(0, 0, 3);
        due("99 there, 3 back", z.answer(0), 102);
    }

    private static void who() {
        test = "promise 29";
        HeelPost x = in(ONE);
        x.post(0, 0, 4);
        fill(x, 2, 7, 0, 1, 2, 3, 4);
        due("kinds", x.who(0, 0, 0, 2, 1, 5), 2 + 4 + 16);
        due("begins", x.who(0, 1, 0, 2, 1, 5), 2);
        due("kinds by one hour", x.who(0, 0, 0, 2, 1, 1), 62);
        due("begins by one hour", x.who(0, 1, 0, 2, 1, 1), 16777214);
        due("no kind", x.who(0, 0, 0, 2, 0, 1), 0);
        due("nothing changes", x.kind(0), 1);
        due("nothing changes", x.person(0, 2), 1);
        fill(x, 1, 0, 0, 1);
        due("a drunkard", x.who(0, 0, 0, 1, 0, 3), 8);
        fill(x, 1, 0, 2);
        due("a blind one", x.who(0, 0, 0, 1, 0, 2), 32);
        fill(x, 1, 1, 2);
        due("at once", x.who(0, 1, 0, 1, 0, 2), 1);
        findings(x, 3);
        due("bad person", x.who(1, 0, 0, 2, 0, 1), BAD);
        due("bad person", x.who(-1, 0, 0, 2, 0, 1), BAD);
        due("bad which", x.who(0, 2, 0, 2, 0, 1), BAD);
        due("bad which", x.who(0, -1, 0, 2, 0, 1), BAD);
        HeelPost y = in("t2,4;w0,1,0;");
        y.post(0, 0, 1);
        y.post(1, 0, 1);
        fill(y, 0, 1);
        due("only a child carries the second", y.who(0, 0, 1, 0, 0, 1), 4);
    }

    /** What who, missing and goals refuse and find alike; row 2 has six items, row 3 is missing. */
    private static void findings(HeelPost x, int calls) {
        for (int c = 0; c < calls; c++) {
            due("no letter", told(x, c, 4, 2, 0, 1), BAD);
            due("no letter", told(x, c, -1, 2, 0, 1), BAD);
            due("no row", told(x, c, 0, 8, 0, 1), BAD);
            due("no row", told(x, c, 0, -1, 0, 1), BAD);
            due("no hours", told(x, c, 0, 2, 0, 0), BAD);
            due("13 hours", told(x, c, 0, 2, 0, 13), BAD);
            due("not out", told(x, c, 1, 3, 0, 1), STATE);
            due("BAD is ahead of STATE", told(x, c, 1, 3, 0, 13), BAD);
            due("missing row", told(x, c, 0, 3, -1, 1), NULL);
            due("status", x.status(), 1);
            due("not out", told(x, c, 1, 2, 0, 1), STATE);
            due("status stays", x.status(), 1);
            due("no place", told(x, c, 0, 2, -1, 1), PLACE);
            due("status", x.status(), 2);
            due("no place", told(x, c, 0, 2, 1, 6), PLACE);
            due("no place", told(x, c, 0, 2, 6, 1), PLACE);
            due("no place", told(x, c, 0, 2, MOST, 12), PLACE);
            due("no place", told(x, c, 0, 2, LEAST, 12), PLACE);
            told(x, c, 0, 2, 0, 6);
            due("status", x.status(), 0);
        }
    }

    private static int told(HeelPost x, int call, int letter, int row, int i, int n) {
        switch (call) {
            case 0: return x.who(0, 0, letter, row, i, n);
            case 1: return x.missing(letter, row, i, n);
            default: return x.goals(letter, row, i, n);
        }
    }

    private static void missing() {
        test = "promise 30";
        HeelPost x = in("t3,4;w0,1,0;w0,2,0;");
        x.post(0, 0, 2);
        fill(x, 0, 1, 2);
        fill(x, 1, 1, 1);
        fill(x, 2, 0, 0);
        due("as it is, or without the first", x.missing(0, 0, 0, 2), 65);
        due("without the second", x.missing(0, 1, 0, 2), 2);
        due("without both, which is not asked", x.missing(0, 2, 0, 2), 0);
        x.stay(0, 1);
        due("not who is at home", x.missing(0, 0, 0, 2), 64);
        due("the second is", x.missing(0, 2, 0, 2), 2);
        due("nothing changes", x.count(5), 1);
    }

    private static void goals() {
        test = "promise 31";
        HeelPost x = in("t5,6;w0,4,0;");
        x.post(0, 0, 4);
        fill(x, 0, 1, 2, 2);
        fill(x, 1, 1, 2, 3);
        fill(x, 2, 0);
        due("one", x.goals(0, 0, 0, 3), 4);
        due("two", x.goals(0, 1, 0, 3), 24);
        due("all but where it lies", x.goals(0, 1, 0, 1), 30);
        due("where it lies", x.goals(0, 2, 0, 1), 1);
        due("none", x.goals(0, 1, 2, 1), 0);
        due("nothing changes", x.letter(0, 2), 4);
        x.row(4, 2, 12);
        due("12 hours", x.goals(0, 4, 0, 12), 1);
    }

    private static void busy() {
        test = "promise 32";
        HeelPost x = inFive();
        due("the first of several", x.busy(6, 0), 0);
        due("how often", x.busy(6, 1), 4);
        due("the child", x.busy(1, 0), 1);
        due("how often", x.busy(1, 1), 1);
        due("bad", x.busy(0, 0), BAD);
        due("bad", x.busy(100, 0), BAD);
        due("bad", x.busy(1, 2), BAD);
        due("bad", x.busy(1, -1), BAD);
        HeelPost y = in("t3,4;w0,2,0;c0,2,0;");
        y.post(0, 0, 2);
        y.post(1, 0, 2);
        y.post(2, 0, 2);
        due("who carries two", y.busy(2, 0), 1);
        due("each letter, each hour", y.busy(2, 1), 4);
        HeelPost z = in(FIVE);
        due("nobody", z.busy(99, 0), 0);
        due("never", z.busy(99, 1), 0);
    }

    private static void sick() {
        test = "promise 33";
        HeelPost x = in("t3,4;w0,1,0;w1,2,1;");
        x.post(0, 0, 2);
        fraction("both are needed", x, 2, 3, 49, 100);
        fraction("lowest terms", x, 99, 5, 1, 4);
        fraction("nobody is sick", x, 2, 0, 1, 1);
        fraction("all are", x, 2, 10, 0, 1);
        fraction("not so soon", x, 1, 3, 0, 1);
        fraction("now", x, 0, 3, 0, 1);
        x.stay(1, 1);
        fraction("one is at home", x, 99, 3, 0, 1);
        x.post(0, 0, 1);
        fraction("the other is not", x, 2, 3, 7, 10);
        x.post(0, 1, 1);
        fraction("it is there", x, 0, 10, 1, 1);
        HeelPost y = in("t2,4;w0,1,0;w0,1,0;w0,1,0;w0,1,0;w0,1,0;w0,1,0;");
        y.post(0, 0, 1);
        fraction("not all six", y, 1, 1, 999999, 1000000);
        y.post(0, 1, 1);
        fraction("it is there though all are sick", y, 0, 9, 1, 1);
        refusals("sick", x.sick(4, 1, 1, 0), x.sick(-1, 1, 1, 0), x.sick(3, 1, 1, 0));
        int[][] bad = {{100, 0, 0}, {-1, 0, 0}, {0, 11, 0}, {0, -1, 0}, {0, 0, 2}, {0, 0, -1}};
        for (int[] b : bad) {
            due("bad", x.sick(0, b[0], b[1], b[2]), BAD);
        }
    }

    private static void fraction(String call, HeelPost x, int n, int p, long above, long below) {
        due(call + ": above", x.sick(0, n, p, 0), above);
        due(call + ": below", x.sick(0, n, p, 1), below);
    }

    /** From 1 on X is 16807, 282475249, 1622650073, 984943658, 1144108930: letter 2 is posted in the fifth. */
    private static void drawn() {
        test = "promise 34";
        HeelPost x = in("t5,6;w0,4,4;");
        due("not yet", x.drawn(4, 1, 1), 0);
        due("carried", x.drawn(5, 1, 1), 1);
        due("not there", x.drawn(5, 1, 0), 0);
        HeelPost y = in("t2,6;w0,1,4;");
        due("none", y.drawn(0, 1, 0), 0);
        due("not yet", y.drawn(4, 1, 0), 0);
        due("there", y.drawn(5, 1, 0), 1);
        due("nothing changes", y.count(4), 0);
        y.post(0, 1, 1);
        y.post(1, 0, 1);
        due("those that are out", y.drawn(0, 1, 0), 1);
        due("the one is ahead of the other", y.drawn(5, 1, 0), 2);
        due("carried", y.drawn(5, 1, 1), 1);
        y.post(2, 1, 1);
        due("in its place", y.drawn(5, 1, 0), 2);
        int[][] bad = {{-1, 1, 0}, {100, 1, 0}, {0, 0, 0}, {0, 1000000, 0}, {0, 1, 2}, {0, 1, -1}};
        for (int[] b : bad) {
            due("bad", y.drawn(b[0], b[1], b[2]), BAD);
        }
        due("the greatest seed", y.drawn(0, 999999, 0), 2);
        y.drawn(99, 999999, 0);
        due("nothing changes", y.count(3), 0);
        HeelPost z = in("t4,6;w2,0,4;");
        due("from lane 2 for lane 1", z.drawn(5, 1, 0), 1);
        due("carried", z.drawn(5, 1, 1), 1);
        tell(z, "t3,6;w1,0,4;");
        due("from lane 1 for lane 1", z.drawn(5, 1, 0), 1);
        due("not carried", z.drawn(5, 1, 1), 0);
    }

    private static void images() {
        test = "promise 35";
        HeelPost x = new HeelPost();
        due("BAD is ahead of STATE", x.image(2), BAD);
        due("bad", x.image(-1), BAD);
        due("no town", x.image(1), STATE);
        tell(x, ONE);
        x.hours(1);
        due("image", x.image(1), 1);
        due("acts stay", x.count(6), 1);
    }

    private static void restoring() {
        test = "promise 36";
        HeelPost x = inFive();
        due("none was kept", x.restore(0), STATE);
        due("bad", x.restore(2), BAD);
        due("bad", x.restore(-1), BAD);
        x.hours(3);
        x.stay(1, 1);
        x.begin(2, 5);
        x.image(0);
        x.hours(2);
        x.image(1);
        tell(x, STILL);
        due("none was kept of a town that is told", x.count(2), 1);
        due("restore", x.restore(0), 1);
        due("lanes", x.count(1), 5);
        due("people", x.count(2), 5);
        due("hour", x.count(3), 3);
        due("out", x.count(4), 7);
        due("home", x.count(5), 2);
        due("acts", x.count(6), 0);
        due("undo", x.undo(), STATE);
        due("where", x.letter(0, 1), 2);
        due("goal", x.letter(0, 2), 4);
        due("begins", x.person(2, 2), 5);
        due("kind", x.kind(4), 5);
        x.hours(1);
        due("the other", x.restore(1), 1);
        due("no act", x.count(6), 0);
        due("hour", x.count(3), 5);
        due("the same again", x.restore(0), 1);
        due("hour", x.count(3), 3);
    }

    private static void kinds() {
        test = "promise 37";
        HeelPost x = in(FIVE);
        for (int p = 0; p < 5; p++) {
            due("kind", x.kind(p), p + 1);
        }
        due("bad", x.kind(5), BAD);
        due("bad", x.kind(-1), BAD);
    }

    private static void taken() {
        test = "promise 38";
        HeelPost x = in(FIVE);
        String[] are = {"01", "012", "013", "04", "045"};
        for (int p = 0; p < 5; p++) {
            for (int k = 0; k <= 5; k++) {
                boolean is = are[p].indexOf('0' + k) >= 0;
                due(p + " as " + k, x.as(p, k), is ? p : KIND);
                due("status", x.status(), is ? 0 : 3);
            }
        }
        due("bad", x.as(5, 0), BAD);
        due("bad", x.as(-1, 0), BAD);
        due("bad", x.as(0, 6), BAD);
        due("bad", x.as(0, -1), BAD);
        due("status stays", x.status(), 0);
    }

    private static void asking() {
        test = "promise 39";
        HeelPost x = in(FIVE);
        asked(x, 0, 0, 1, 11, 10, 21, 20);
        asked(x, 0, 1, 0, 21, 20);
        asked(x, 1, 0, -10, 12, 11, 10, 24, 21, 20);
        asked(x, 1, 1, 10, 24, 21, 20);
        asked(x, 2, 0, -997, 11, 10, 22, 21, 20);
        asked(x, 2, 1, -997, 22, 21, 20);
        asked(x, 3, 0, -100, 13, 10);
        asked(x, 3, 1, 103, 23, 20, 13, 10);
        asked(x, 4, 0, -196, 14, 13, 10);
        asked(x, 4, 1, 200, 23, 20, 14, 13, 10);
        due("bad", x.ask(5, 0), BAD);
        due("bad", x.ask(-1, 0), BAD);
        due("bad", x.ask(0, 2), BAD);
        due("bad", x.ask(0, -1), BAD);
        due("the trace stays", x.trace(4), 10);
        x.hours(3);
        x.begin(0, 2);
        asked(x, 0, 0, 3, 11, 10, 21, 20);
    }

    private static void traced() {
        test = "promise 40";
        HeelPost x = in(FIVE);
        due("before an ask", x.trace(0), NONE);
        x.ask(4, 1);
        due("trace", x.trace(2), 14);
        due("none", x.trace(-1), NONE);
        due("none", x.trace(16), NONE);
        due("none", x.trace(LEAST), NONE);
        due("none", x.trace(MOST), NONE);
        x.ask(0, 1);
        due("it is empty ahead of an ask", x.trace(2), NONE);
    }

    private static void counted() {
        test = "promise 41";
        HeelPost x = inFive();
        x.row(3, 0, 0);
        x.row(5, 0, 9);
        x.hours(2);
        x.stay(1, 1);
        x.stay(4, 1);
        x.callBack(1);
        feed(x, "t2");
        int[] counts = {2, 5, 5, 2, 5, 18, 8, 2};
        for (int what = 0; what < counts.length; what++) {
            due("count(" + what + ")", x.count(what), counts[what]);
        }
        due("bad", x.count(8), BAD);
        due("bad", x.count(-1), BAD);
    }

    private static void statuses() {
        test = "promise 42";
        HeelPost x = in(FIVE);
        due("none", x.status(), 0);
        x.drop(0);
        due("drop", x.status(), 1);
        x.feed(-1);
        x.hours(25);
        x.undo();
        x.person(9, 9);
        x.row(9, 9, 9);
        x.as(9, 9);
        x.missing(0, 0, 0, 1);
        due("what is BAD or STATE leaves it", x.status(), 1);
        x.ask(0, 0);
        x.post(0, 0, 1);
        due("calls without a row leave it", x.status(), 1);
        x.row(0, 0, 1);
        due("a row", x.status(), 0);
        x.set(0, 1, 0);
        due("no place", x.status(), 2);
        x.as(0, 0);
        due("as", x.status(), 0);
        x.as(0, 4);
        due("as none", x.status(), 3);
        x.goals(0, 0, 0, 1);
        due("goals", x.status(), 0);
        x.row(0, 0, -1);
        due("size", x.status(), 4);
        x.copy(0, 0, 0, 0, 1);
        due("copy", x.status(), 0);
        x.row(1, 1, 1);
        x.copy(0, 0, 1, 0, 1);
        due("store", x.status(), 5);
        x.drop(1);
        due("drop", x.status(), 0);
    }
}
