import java.util.ArrayDeque;
import java.util.ArrayList;
import java.util.Deque;
import java.util.List;

/**
 * The document, written a second time: it shares no code and no way of working with HeelPost; nothing is worked out
 * ahead, each question is tried from the start.
 */
final class Model {
    private static final int NONE = -1000000, BAD = -1000001, STATE = -1000002, FULL = -1000003;

    World w;
    final World[] images = new World[2];
    final Deque<World> acts = new ArrayDeque<>();
    final int[][] rows = new int[8][];
    final int[] lane = new int[8];
    final StringBuilder tape = new StringBuilder();
    List<Integer> trace = new ArrayList<>();
    int fault, status;

    boolean isRow(int r) {
        return r >= 0 && r <= 7;
    }

    boolean isPerson(int p) {
        return w != null && p >= 0 && p < w.people.size();
    }

    boolean isLane(int l) {
        return w != null && l >= 0 && l < w.lanes;
    }

    boolean isLetter(int l) {
        return w != null && l >= 0 && l < 4;
    }

    static boolean in(int n, int a, int b) {
        return a <= n && n <= b;
    }

    int finding(int n) {
        status = n;
        return -1000010 - n;
    }

    int fine(int answer) {
        status = 0;
        return answer;
    }

    void act() {
        acts.addLast(w.copy());
        if (acts.size() > 24) {
            acts.removeFirst();
        }
    }

    int row(int r, int ln, int n) {
        if (!isRow(r) || !in(ln, 0, 2) || n > 40) return BAD;
        if (n < 0) return finding(4);
        rows[r] = new int[n];
        lane[r] = ln;
        return fine(n);
    }

    int set(int r, int i, int v) {
        if (!isRow(r)) return BAD;
        if (rows[r] == null) return finding(1);
        if (!in(i, 0, rows[r].length - 1)) return finding(2);
        int bits = lane[r] == 0 ? 24 : lane[r] == 1 ? 16 : 0;
        rows[r][i] = v << bits >> bits;
        return fine(rows[r][i]);
    }

    int copy(int a, int i, int b, int j, int n) {
        if (!isRow(a) || !isRow(b)) return BAD;
        if (rows[a] == null || rows[b] == null) return finding(1);
        if (lane[a] != lane[b]) return finding(5);
        if (i < 0 || j < 0 || n < 0 || (long) i + n > rows[a].length || (long) j + n > rows[b].length) return finding(2);
        int[] was = rows[a].clone();
        for (int k = 0; k < n; k++) {
            rows[b][j + k] = was[i + k];
        }
        return fine(n);
    }

    int drop(int r) {
        if (!isRow(r)) return BAD;
        if (rows[r] == null) return finding(1);
        int had = rows[r].length;
        rows[r] = null;
        return fine(had);
    }

    int feed(int b) {
        if (!in(b, 0, 255)) return BAD;
        if (tape.length() == 120) return FULL;
        tape.append((char) b);
        return tape.length();
    }

    int town() {
        String text = tape.toString();
        tape.setLength(0);
        List<String> tokens = new ArrayList<>();
        List<Integer> places = new ArrayList<>();
        for (int i = 0; i < text.length(); ) {
            int end = i + 1;
            while (Character.isDigit(text.charAt(i)) && text.charAt(i) < 128 && end < text.length()
                    && text.charAt(end) >= '0' && text.charAt(end) <= '9') {
                end++;
            }
            tokens.add(text.substring(i, end));
            places.add(i);
            i = end;
        }
        places.add(text.length());
        World t = new World();
        int[] numbers = new int[3];
        for (int i = 0; i <= tokens.size(); i++) {
            String token = i < tokens.size() ? tokens.get(i) : "";
            int spot = i < 5 ? i : (i - 5) % 7;
            String form = i < 5 ? "tn,n;" : "sn,n,n;";
            if (i == tokens.size()) {
                if (i >= 12 && spot == 0) {
                    break;
                }
                return fail(1, places.get(i));
            }
            int bad = check(token, form.charAt(spot), i < 5, spot, t);
            if (bad != 0) {
                return fail(bad, places.get(i));
            }
            if (form.charAt(spot) == 'n') {
                int v = Integer.parseInt(token);
                if (i == 1) t.lanes = v;
                else if (i == 3) t.hours = v;
                else numbers[spot / 2] = v;
            }
            if (i >= 5 && spot == 0) {
                Walker p = new Walker();
                p.sort = token.charAt(0);
                t.people.add(p);
            }
            if (i >= 5 && spot == 6) {
                Walker p = t.people.get(t.people.size() - 1);
                p.from = numbers[0];
                p.to = numbers[1];
                p.begins = numbers[2];
            }
        }
        w = t;
        acts.clear();
        return w.people.size();
    }

    private int check(String token, char form, boolean law, int spot, World t) {
        if (form == 'n') {
            if (!token.matches("[0-9]{1,2}")) return 1;
            int v = Integer.parseInt(token);
            if (law) return spot == 1 ? (in(v, 2, 9) ? 0 : 2) : (in(v, 4, 24) ? 0 : 2);
            return in(v, 0, spot == 5 ? 23 : t.lanes - 1) ? 0 : 2;
        }
        if (form == 's') {
            if (!token.matches("[wcdmb]")) return 1;
            return t.people.size() == 6 ? 3 : 0;
        }
        return token.equals(String.valueOf(form)) ? 0 : 1;
    }

    private int fail(int number, int place) {
        fault = number;
        return -1000100 - place;
    }

    int undo() {
        if (acts.isEmpty()) return STATE;
        w = acts.removeLast();
        return acts.size();
    }

    int hours(int n) {
        if (w == null) return STATE;
        if (!in(n, 1, 24)) return BAD;
        if (w.hour + n > 999) return FULL;
        for (int i = 0; i < n; i++) {
            act();
            w.tick();
        }
        return w.thereBits();
    }

    int post(int l, int ln, int goal) {
        if (!isLetter(l) || !isLane(ln) || !isLane(goal)) return BAD;
        act();
        w.mail[l] = new Mail(ln, goal);
        return w.outBits();
    }

    int callBack(int l) {
        if (!isLetter(l)) return BAD;
        if (w.mail[l] == null) return STATE;
        act();
        int was = w.mail[l].lane;
        w.mail[l] = null;
        return was;
    }

    int begin(int p, int n) {
        if (!isPerson(p) || !in(n, 0, 23)) return BAD;
        act();
        int was = w.people.get(p).begins;
        w.people.get(p).begins = n;
        return was;
    }

    int stay(int p, int home) {
        if (!isPerson(p) || !in(home, 0, 1)) return BAD;
        if (w.people.get(p).home == (home == 1)) return STATE;
        act();
        w.people.get(p).home = home == 1;
        return w.homeBits();
    }

    int person(int p, int what) {
        if (!isPerson(p) || !in(what, 0, 5)) return BAD;
        Walker q = w.people.get(p);
        return new int[] {q.from, q.to, q.begins, w.at(p, 0), w.at(p, 1), q.home ? 1 : 0}[what];
    }

    int letter(int l, int what) {
        if (!isLetter(l) || !in(what, 0, 3)) return BAD;
        if (what == 0) return w.mail[l] != null ? 1 : 0;
        if (w.mail[l] == null) return BAD;
        if (what == 1) return w.mail[l].lane;
        if (what == 2) return w.mail[l].goal;
        int by = w.copy().tick()[l];
        return by < 0 ? NONE : by;
    }

    int lane(int ln) {
        if (!isLane(ln)) return BAD;
        int bits = 0;
        for (int p = 0; p < w.people.size(); p++) {
            bits |= w.at(p, 0) == ln ? 1 << p : 0;
        }
        return bits;
    }

    int ahead(int p, int n) {
        return isPerson(p) && in(n, 0, 99) ? w.at(p, n) : BAD;
    }

    int refuse(int l, boolean good) {
        if (!good || !isLetter(l)) return BAD;
        return w.mail[l] == null ? STATE : 0;
    }

    int letterAhead(int l, int n) {
        int r = refuse(l, in(n, 0, 99));
        return r != 0 ? r : w.later(n).mail[l].lane;
    }

    int arrives(int l) {
        int r = refuse(l, true);
        return r != 0 ? r : w.arrives(l);
    }

    int carriers(int l, int n) {
        int r = refuse(l, in(n, 1, 99));
        if (r != 0) return r;
        World t = w.copy();
        int bits = 0;
        for (int i = 0; i < n; i++) {
            int by = t.tick()[l];
            bits |= by < 0 ? 0 : 1 << by;
        }
        return bits;
    }

    int bestHour(int ln, int goal, int what) {
        if (!isLane(ln) || !isLane(goal) || ln == goal || !in(what, 0, 1)) return BAD;
        int best = 100, at = NONE;
        for (int k = w.hours - 1; k >= 0; k--) {
            int under = w.later(k).withTrial(ln, goal).arrives(3);
            if (under != NONE && k + under < best) {
                best = k + under;
                at = k;
            }
        }
        return at == NONE ? NONE : what == 0 ? at : best;
    }

    int spots(int goal, int n) {
        if (!isLane(goal) || !in(n, 1, 99)) return BAD;
        int bits = 0;
        for (int ln = 0; ln < w.lanes; ln++) {
            bits |= w.withTrial(ln, goal).thereIn(3, n) ? 1 << ln : 0;
        }
        return bits;
    }

    int cutOff() {
        if (w == null) return STATE;
        int bits = 0;
        for (int goal = 0; goal < w.lanes; goal++) {
            bits |= (spots(goal, 99) & ~(1 << goal)) == 0 ? 1 << goal : 0;
        }
        return bits;
    }

    int crew(int l, int n, int what) {
        int r = refuse(l, in(n, 1, 99) && in(what, 0, 1));
        if (r != 0) return r;
        int all = (1 << w.people.size()) - 1;
        for (int size = 0; size <= 6; size++) {
            for (int s = 0; s <= all; s++) {
                if (Integer.bitCount(s) == size && (s & w.homeBits()) == 0 && w.withHome(all & ~s).thereIn(l, n)) {
                    return what == 0 ? size : s;
                }
            }
        }
        return NONE;
    }

    int needed(int l, int n) {
        int r = refuse(l, in(n, 1, 99));
        if (r != 0) return r;
        int bits = 0;
        for (int p = 0; p < w.people.size() && w.thereIn(l, n); p++) {
            if (!w.people.get(p).home && !w.withHome(w.homeBits() | 1 << p).thereIn(l, n)) {
                bits |= 1 << p;
            }
        }
        return bits;
    }

    int meet(int p, int o) {
        if (!isPerson(p) || !isPerson(o) || p == o) return BAD;
        for (int n = 0; n <= 99; n++) {
            if (w.at(p, n) == w.at(o, n)) return n;
        }
        return NONE;
    }

    int answer(int l) {
        int r = refuse(l, true);
        if (r != 0) return r;
        int there = w.arrives(l);
        if (there == NONE) return NONE;
        int back = w.later(there).withTrial(w.mail[l].goal, w.mail[l].lane).arrives(3);
        return back == NONE ? NONE : there + back;
    }

    int told(int r, int i, int n) {
        if (rows[r] == null) return finding(1);
        if (i < 0 || (long) i + n > rows[r].length) return finding(2);
        return 0;
    }

    int[] items(int r, int i, int n) {
        return java.util.Arrays.copyOfRange(rows[r], i, i + n);
    }

    int who(int p, int which, int l, int r, int i, int n) {
        int no = refuse(l, isPerson(p) && in(which, 0, 1) && isRow(r) && in(n, 1, 12));
        if (no != 0) return no;
        int found = told(r, i, n);
        if (found != 0) return found;
        int bits = 0;
        for (int v = which == 0 ? 1 : 0; v <= (which == 0 ? 5 : 23); v++) {
            World t = w.copy();
            if (which == 0) t.people.get(p).sort = "wcdmb".charAt(v - 1);
            else t.people.get(p).begins = v;
            bits |= t.goesAs(l, items(r, i, n)) ? 1 << v : 0;
        }
        return fine(bits);
    }

    int missing(int l, int r, int i, int n) {
        int no = refuse(l, isRow(r) && in(n, 1, 12));
        if (no != 0) return no;
        int found = told(r, i, n);
        if (found != 0) return found;
        int bits = w.goesAs(l, items(r, i, n)) ? 64 : 0;
        for (int p = 0; p < w.people.size(); p++) {
            if (!w.people.get(p).home && w.withHome(w.homeBits() | 1 << p).goesAs(l, items(r, i, n))) {
                bits |= 1 << p;
            }
        }
        return fine(bits);
    }

    int goals(int l, int r, int i, int n) {
        int no = refuse(l, isRow(r) && in(n, 1, 12));
        if (no != 0) return no;
        int found = told(r, i, n);
        if (found != 0) return found;
        int bits = 0;
        for (int g = 0; g < w.lanes; g++) {
            World t = w.copy();
            t.mail[l].goal = g;
            bits |= t.goesAs(l, items(r, i, n)) ? 1 << g : 0;
        }
        return fine(bits);
    }

    int busy(int n, int what) {
        if (w == null) return STATE;
        if (!in(n, 1, 99) || !in(what, 0, 1)) return BAD;
        int[] times = new int[w.people.size()];
        World t = w.copy();
        for (int i = 0; i < n; i++) {
            for (int by : t.tick()) {
                if (by >= 0) times[by]++;
            }
        }
        int most = 0;
        for (int p = 0; p < times.length; p++) {
            if (times[p] > times[most]) most = p;
        }
        return what == 0 ? most : times[most];
    }

    long sick(int l, int n, int p, int what) {
        int no = refuse(l, in(n, 0, 99) && in(p, 0, 10) && in(what, 0, 1));
        if (no != 0) return no;
        long above = 0, below = 1;
        List<Integer> able = new ArrayList<>();
        for (int q = 0; q < w.people.size(); q++) {
            if (!w.people.get(q).home) {
                able.add(q);
                below *= 10;
            }
        }
        for (int s = 0; s < 1 << able.size(); s++) {
            long weight = 1;
            World t = w.copy();
            for (int k = 0; k < able.size(); k++) {
                boolean ill = (s >> k & 1) == 1;
                weight *= ill ? p : 10 - p;
                t.people.get(able.get(k)).home = ill;
            }
            above += t.thereIn(l, n) ? weight : 0;
        }
        java.math.BigInteger g = java.math.BigInteger.valueOf(above).gcd(java.math.BigInteger.valueOf(below));
        return (what == 0 ? above : below) / g.longValue();
    }

    int drawn(int n, int seed, int what) {
        if (w == null) return STATE;
        if (!in(n, 0, 99) || !in(seed, 1, 999999) || !in(what, 0, 1)) return BAD;
        World t = w.copy();
        java.math.BigInteger x = java.math.BigInteger.valueOf(seed);
        int times = 0;
        for (int i = 0; i < n; i++) {
            x = x.multiply(java.math.BigInteger.valueOf(16807)).mod(java.math.BigInteger.valueOf(2147483647));
            int v = x.intValue();
            if (v % 5 == 0) {
                t.mail[v % 4] = new Mail(v % t.lanes, t.lanes - 1 - v % t.lanes);
            }
            for (int by : t.tick()) {
                times += by >= 0 ? 1 : 0;
            }
        }
        return what == 0 ? Integer.bitCount(t.thereBits()) : times;
    }

    int image(int k) {
        if (!in(k, 0, 1)) return BAD;
        if (w == null) return STATE;
        images[k] = w.copy();
        return 1;
    }

    int restore(int k) {
        if (!in(k, 0, 1)) return BAD;
        if (images[k] == null) return STATE;
        w = images[k].copy();
        acts.clear();
        return 1;
    }

    int kind(int p) {
        return isPerson(p) ? w.people.get(p).kind() : BAD;
    }

    int as(int p, int kind) {
        if (!isPerson(p) || !in(kind, 0, 5)) return BAD;
        String[] are = {"", "01", "012", "013", "04", "045"};
        return are[kind(p)].indexOf('0' + kind) >= 0 ? fine(p) : finding(3);
    }

    int ask(int p, int what) {
        if (!isPerson(p) || !in(what, 0, 1)) return BAD;
        Someone s = new Someone[] {null, new Wanderer(), new Kid(), new Sot(), new Servant(), new Groper()}[kind(p)];
        s.number = p;
        s.begins = w.people.get(p).begins;
        s.place = w.at(p, 0);
        int answer = what == 0 ? s.size() : s.mark();
        trace = s.trace;
        return answer;
    }

    int trace(int i) {
        return i >= 0 && i < trace.size() ? trace.get(i) : NONE;
    }

    int count(int what) {
        if (!in(what, 0, 7)) return BAD;
        int there = 0;
        for (int[] r : rows) {
            there += r != null ? 1 : 0;
        }
        if (what == 0) return there;
        if (what == 6) return acts.size();
        if (what == 7) return tape.length();
        if (w == null) return 0;
        return new int[] {0, w.lanes, w.people.size(), w.hour, w.outBits(), w.homeBits()}[what];
    }

    int fault() {
        return fault;
    }

    int status() {
        return status;
    }

    static final class Walker {
        char sort;
        int from, to, begins;
        boolean home;

        Walker copy() {
            Walker w = new Walker();
            w.sort = sort;
            w.from = from;
            w.to = to;
            w.begins = begins;
            w.home = home;
            return w;
        }

        int at(int hour, int hours) {
            if (home) {
                return from;
            }
            int clock = hour % hours, day = hour / hours, gone = 0;
            if (clock > begins) {
                gone = clock - begins;
            }
            if (sort == 'd') {
                gone = gone / 2;
            }
            if ((sort == 'm' || sort == 'b') && day % 2 != 0) {
                gone = 0;
            }
            if (sort == 'b') {
                gone = gone * 2;
            }
            int lane = from;
            for (int i = 0; i < gone && lane != to; i++) {
                lane += to > from ? 1 : -1;
            }
            return lane;
        }

        int kind() {
            return "wcdmb".indexOf(sort) + 1;
        }
    }

    static final class Mail {
        int lane, goal;

        Mail(int lane, int goal) {
            this.lane = lane;
            this.goal = goal;
        }
    }

    static final class World {
        int lanes, hours, hour;
        List<Walker> people = new ArrayList<>();
        Mail[] mail = new Mail[4];

        World copy() {
            World w = new World();
            w.lanes = lanes;
            w.hours = hours;
            w.hour = hour;
            for (Walker p : people) {
                w.people.add(p.copy());
            }
            for (int l = 0; l < 4; l++) {
                w.mail[l] = mail[l] == null ? null : new Mail(mail[l].lane, mail[l].goal);
            }
            return w;
        }

        int at(int p, int ahead) {
            return people.get(p).at(hour + ahead, hours);
        }

        /** An hour; who carried each letter, -1 if none. */
        int[] tick() {
            int[] by = {-1, -1, -1, -1};
            int[] load = new int[people.size()];
            for (int l = 0; l < 4; l++) {
                Mail m = mail[l];
                if (m == null || m.lane == m.goal) {
                    continue;
                }
                for (int p = 0; p < people.size() && by[l] < 0; p++) {
                    int next = at(p, 1);
                    boolean towards = m.goal > m.lane ? next > m.lane : next < m.lane;
                    int can = people.get(p).sort == 'c' ? 2 : 1;
                    if (at(p, 0) == m.lane && towards && load[p] < can) {
                        by[l] = p;
                        load[p]++;
                        boolean beyond = m.goal > m.lane ? next > m.goal : next < m.goal;
                        m.lane = beyond ? m.goal : next;
                    }
                }
            }
            hour++;
            return by;
        }

        World later(int n) {
            World w = copy();
            for (int i = 0; i < n; i++) {
                w.tick();
            }
            return w;
        }

        boolean there(int l) {
            return mail[l] != null && mail[l].lane == mail[l].goal;
        }

        int arrives(int l) {
            World w = copy();
            for (int n = 0; n <= 99; n++) {
                if (w.there(l)) {
                    return n;
                }
                w.tick();
            }
            return NONE;
        }

        boolean thereIn(int l, int n) {
            return later(n).there(l);
        }

        World withHome(int bits) {
            World w = copy();
            for (int p = 0; p < people.size(); p++) {
                w.people.get(p).home = (bits >> p & 1) == 1;
            }
            return w;
        }

        World withTrial(int lane, int goal) {
            World w = copy();
            w.mail[3] = new Mail(lane, goal);
            return w;
        }

        int homeBits() {
            int bits = 0;
            for (int p = 0; p < people.size(); p++) {
                bits |= people.get(p).home ? 1 << p : 0;
            }
            return bits;
        }

        int outBits() {
            int bits = 0;
            for (int l = 0; l < 4; l++) {
                bits |= mail[l] != null ? 1 << l : 0;
            }
            return bits;
        }

        int thereBits() {
            int bits = 0;
            for (int l = 0; l < 4; l++) {
                bits |= there(l) ? 1 << l : 0;
            }
            return bits;
        }

        boolean goesAs(int l, int[] told) {
            for (int n = 1; n <= told.length; n++) {
                if (later(n).mail[l].lane != told[n - 1]) {
                    return false;
                }
            }
            return true;
        }
    }

    /** The bodies, as Java itself would choose them. */
    private static class Someone {
        int number, begins, place;
        List<Integer> trace = new ArrayList<>();

        int size() {
            trace.add(10);
            return begins;
        }

        int mark() {
            trace.add(20);
            return number;
        }
    }

    private static class Wanderer extends Someone {
        @Override int size() {
            trace.add(11);
            return super.size() + mark();
        }

        @Override int mark() {
            trace.add(21);
            return super.mark() + place;
        }
    }

    private static final class Kid extends Wanderer {
        @Override int size() {
            trace.add(12);
            return -super.size();
        }

        @Override int mark() {
            trace.add(24);
            return 2 * super.mark();
        }
    }

    private static final class Sot extends Wanderer {
        @Override int mark() {
            trace.add(22);
            return super.mark() - 1000;
        }
    }

    private static class Servant extends Someone {
        @Override int size() {
            trace.add(13);
            return super.size() - 100;
        }

        @Override int mark() {
            trace.add(23);
            return super.mark() - size();
        }
    }

    private static final class Groper extends Servant {
        @Override int size() {
            trace.add(14);
            return 2 * super.size();
        }
    }
}
