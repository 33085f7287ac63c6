import java.util.Random;

/** Runs of drawn calls on HeelPost and on the second writing of the document. */
public final class ModelTest {
    private static final int RUNS = 1500, CALLS = 480;
    private static int wrong = 0;

    public static void main(String[] args) {
        for (int run = 1; run <= RUNS && wrong < 20; run++) {
            new Drive(run).go();
        }
        System.out.println(wrong == 0 ? "all answers are as due" : wrong + " answers are not as due");
        if (wrong != 0) {
            System.exit(1);
        }
    }

    // ---------------------------------------------------------------- drawn calls

    private static final class Drive {
        final int run;
        final Random random;
        final HeelPost x = new HeelPost();
        final Model m = new Model();
        int calls;

        Drive(int run) {
            this.run = run;
            this.random = new Random(run);
        }

        void go() {
            if (random.nextInt(4) != 0) {
                tell();
            }
            while (calls < CALLS) {
                switch (random.nextInt(60)) {
                    case 0: case 1: tell(); break;
                    case 2: case 3: case 4: row(); break;
                    case 5: case 6: case 7: case 8: tellWay(); break;
                    case 9: case 10: case 11: case 12: case 13: case 14: letters(); break;
                    default: one(random.nextInt(38));
                }
            }
        }

        int n(int below) {
            int odd = random.nextInt(40);
            if (odd == 0) return -1;
            if (odd == 1) return below;
            if (odd == 2) return new int[] {Integer.MIN_VALUE, Integer.MAX_VALUE, below + 1, -below, 1 << 31 - 3}[random.nextInt(5)];
            return random.nextInt(below);
        }

        int span() {
            return random.nextInt(12) == 0 ? n(100) : random.nextBoolean() ? 1 + random.nextInt(14) : random.nextInt(101);
        }

        void due(String call, long got, long want) {
            calls++;
            if (got != want) {
                wrong++;
                System.out.println("run " + run + ", call " + calls + ": " + call + " answered " + got + ", due is " + want);
            }
        }

        void tell() {
            StringBuilder text = new StringBuilder();
            int lanes = 2 + random.nextInt(8), hours = 4 + random.nextInt(random.nextBoolean() ? 21 : 5);
            text.append('t').append(lanes).append(',').append(hours).append(';');
            int people = 1 + random.nextInt(random.nextInt(10) == 0 ? 8 : 6);
            for (int p = 0; p < people; p++) {
                text.append("wcdmb".charAt(random.nextInt(5))).append(random.nextInt(lanes)).append(',');
                text.append(random.nextInt(lanes)).append(',').append(random.nextInt(random.nextInt(6) == 0 ? 24 : hours)).append(';');
            }
            while (random.nextInt(5) == 0) {
                int at = random.nextInt(text.length());
                switch (random.nextInt(4)) {
                    case 0: text.deleteCharAt(at); break;
                    case 1: text.insert(at, "wt,;0123zq \u00e9".charAt(random.nextInt(12))); break;
                    case 2: text.setCharAt(at, "wt,;0129bA".charAt(random.nextInt(10))); break;
                    default: text.setLength(at);
                }
                if (text.length() == 0) {
                    text.append('t');
                }
            }
            if (random.nextInt(60) == 0) {
                for (int i = 0; i < 125; i++) {
                    feed("w0,;".charAt(i % 4));
                }
            }
            for (int i = 0; i < text.length(); i++) {
                feed(text.charAt(i));
            }
            due("town() of " + text, x.town(), m.town());
            due("fault()", x.fault(), m.fault());
        }

        void feed(int b) {
            due("feed(" + b + ")", x.feed(b), m.feed(b));
        }

        void row() {
            int r = n(8), ln = n(3), c = random.nextInt(8) == 0 ? n(41) : random.nextInt(15);
            due("row(" + r + "," + ln + "," + c + ")", x.row(r, ln, c), m.row(r, ln, c));
            int i = n(15), v = random.nextInt(3) == 0 ? random.nextInt() : random.nextInt(9);
            due("set", x.set(r, i, v), m.set(r, i, v));
            int a = n(8), b = random.nextBoolean() ? a : n(8), j = n(8), k = n(8), c2 = n(8);
            due("copy", x.copy(a, j, b, k, c2), m.copy(a, j, b, k, c2));
            due("status", x.status(), m.status());
            if (random.nextInt(5) == 0) {
                int d = n(8);
                due("drop(" + d + ")", x.drop(d), m.drop(d));
            }
        }

        /** A row that tells a letter's way, as it is or nearly so, and what is asked of it. */
        void tellWay() {
            if (m.w == null) {
                return;
            }
            int l = n(4), r = random.nextInt(8), c = 1 + random.nextInt(12), i = random.nextInt(3);
            due("row", x.row(r, random.nextInt(1), c + i), m.row(r, 0, c + i));
            Model.World other = m.w.copy();
            if (random.nextBoolean()) {
                other.people.get(random.nextInt(other.people.size())).home = true;
            }
            for (int h = 1; h <= c; h++) {
                int v = m.isLetter(l) && m.w.mail[l] != null ? other.later(h).mail[l].lane : random.nextInt(9);
                if (random.nextInt(20) == 0) {
                    v = random.nextInt(9);
                }
                due("set", x.set(r, i + h - 1, v), m.set(r, i + h - 1, v));
            }
            int p = n(6), which = n(2), r2 = random.nextInt(10) == 0 ? n(8) : r;
            int i2 = random.nextInt(10) == 0 ? n(40) : i, c2 = random.nextInt(10) == 0 ? n(13) : c;
            String told = "(" + l + "," + r2 + "," + i2 + "," + c2 + ")";
            due("who " + p + "," + which + told, x.who(p, which, l, r2, i2, c2), m.who(p, which, l, r2, i2, c2));
            due("status", x.status(), m.status());
            due("missing" + told, x.missing(l, r2, i2, c2), m.missing(l, r2, i2, c2));
            due("status", x.status(), m.status());
            due("goals" + told, x.goals(l, r2, i2, c2), m.goals(l, r2, i2, c2));
            due("status", x.status(), m.status());
        }

        void letters() {
            int lanes = m.w == null ? 4 : m.w.lanes;
            int l = n(4), from = n(lanes), goal = n(lanes);
            due("post", x.post(l, from, goal), m.post(l, from, goal));
        }

        void one(int which) {
            int lanes = m.w == null ? 4 : m.w.lanes, people = m.w == null ? 2 : m.w.people.size();
            int p = n(people), l = n(4), a = n(lanes), b = n(lanes), s = span(), w = n(2), v;
            switch (which) {
                case 0: due("undo", x.undo(), m.undo()); break;
                case 1: case 2: v = random.nextInt(30) == 0 ? 24 : n(random.nextInt(5) == 0 ? 25 : 6); due("hours(" + v + ")", x.hours(v), m.hours(v)); break;
                case 3: due("callBack", x.callBack(l), m.callBack(l)); break;
                case 4: v = n(24); due("begin", x.begin(p, v), m.begin(p, v)); break;
                case 5: due("stay", x.stay(p, w), m.stay(p, w)); break;
                case 6: v = n(6); due("person", x.person(p, v), m.person(p, v)); break;
                case 7: case 8: v = random.nextBoolean() ? 3 : n(4); due("letter", x.letter(l, v), m.letter(l, v)); break;
                case 9: due("lane", x.lane(a), m.lane(a)); break;
                case 10: due("ahead", x.ahead(p, s), m.ahead(p, s)); break;
                case 11: due("letterAhead", x.letterAhead(l, s), m.letterAhead(l, s)); break;
                case 12: due("arrives", x.arrives(l), m.arrives(l)); break;
                case 13: due("carriers", x.carriers(l, s), m.carriers(l, s)); break;
                case 14: due("bestHour", x.bestHour(a, b, w), m.bestHour(a, b, w)); break;
                case 15: due("spots", x.spots(a, s), m.spots(a, s)); break;
                case 16: due("cutOff", x.cutOff(), m.cutOff()); break;
                case 17: due("crew", x.crew(l, s, w), m.crew(l, s, w)); break;
                case 18: due("needed", x.needed(l, s), m.needed(l, s)); break;
                case 19: v = n(people); due("meet", x.meet(p, v), m.meet(p, v)); break;
                case 20: due("answer", x.answer(l), m.answer(l)); break;
                case 21: due("busy", x.busy(s, w), m.busy(s, w)); break;
                case 22: v = n(11); due("sick", x.sick(l, s, v, w), m.sick(l, s, v, w)); break;
                case 23: case 24: v = 1 + n(999999); due("drawn", x.drawn(s, v, w), m.drawn(s, v, w)); break;
                case 25: due("image", x.image(w), m.image(w)); break;
                case 26: if (random.nextBoolean()) due("restore", x.restore(w), m.restore(w)); break;
                case 27: due("kind", x.kind(p), m.kind(p)); break;
                case 28: v = n(6); due("as", x.as(p, v), m.as(p, v)); due("status", x.status(), m.status()); break;
                case 29: case 30: due("ask", x.ask(p, w), m.ask(p, w)); break;
                case 31: case 32: v = n(8); due("trace", x.trace(v), m.trace(v)); break;
                case 33: v = n(8); due("count", x.count(v), m.count(v)); break;
                case 34: due("status", x.status(), m.status()); break;
                case 35: due("fault", x.fault(), m.fault()); break;
                default: counts();
            }
        }

        void counts() {
            for (int what = 0; what <= 7; what++) {
                due("count(" + what + ")", x.count(what), m.count(what));
            }
        }
    }
}
