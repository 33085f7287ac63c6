/**
 * The post of the old town: letters go by the errands of whoever walks their way.
 * What each call promises stands in the document; the words in capitals are its terms.
 */
public final class HeelPost {
    public static final int NONE = -1000000, BAD = -1000001, STATE = -1000002, FULL = -1000003;

    private static final int FINDINGS = -1000010, FAULTS = -1000100;
    private static final int NULL = 1, PLACE = 2, KIND = 3, SIZE = 4, STORE = 5;
    private static final int WALKER = 1, CHILD = 2, DRUNKARD = 3, MAID = 4, BLIND = 5;

    private static final int MOST_PEOPLE = 6, MOST_LETTERS = 4, MOST_ACTS = 24, IMAGES = 2;
    private static final int MOST_AHEAD = 99, LAST_HOUR = 999, MOST_BEGINS = 23;
    private static final int MOST_TOLD = 12, MOST_SEED = 999999;
    /** Questions of what would be are asked of this LETTER, in place of what it is. */
    private static final int TRIAL_LETTER = 3;
    private static final int AS_IT_IS = 64;

    private final Rows rows = new Rows();
    private final Tape tape = new Tape();
    private final Town now = new Town();
    /** A text is read into this one, so that a FAULT leaves the other as it was. */
    private final Town told = new Town();
    private final Acts acts = new Acts();
    private final Errands errands = new Errands();
    private final Foretold foretold = new Foretold(errands);
    private final Asks asks = new Asks();
    private final Town[] images = new Town[IMAGES];
    private int latestFault;
    private int latestFinding;

    public HeelPost() {
        for (int k = 0; k < IMAGES; k++) {
            images[k] = new Town();
        }
    }

    // ---- rows

    public int row(int row, int lane, int n) {
        if (!Rows.isRow(row) || !within(lane, 0, Rows.INTS) || n > Rows.MOST_ITEMS) {
            return BAD;
        }
        if (n < 0) {
            return found(SIZE);
        }
        rows.make(row, lane, n);
        return unfound(n);
    }

    public int set(int row, int i, int v) {
        if (!Rows.isRow(row)) {
            return BAD;
        }
        int finding = rows.findingOf(row, i, 1);
        return finding != 0 ? found(finding) : unfound(rows.put(row, i, v));
    }

    public int copy(int a, int i, int b, int j, int n) {
        if (!Rows.isRow(a) || !Rows.isRow(b)) {
            return BAD;
        }
        if (!rows.isThere(a) || !rows.isThere(b)) {
            return found(NULL);
        }
        if (rows.laneOf(a) != rows.laneOf(b)) {
            return found(STORE);
        }
        if (!rows.hasPlaces(a, i, n) || !rows.hasPlaces(b, j, n)) {
            return found(PLACE);
        }
        rows.carryOver(a, i, b, j, n);
        return unfound(n);
    }

    public int drop(int row) {
        if (!Rows.isRow(row)) {
            return BAD;
        }
        if (!rows.isThere(row)) {
            return found(NULL);
        }
        int had = rows.lengthOf(row);
        rows.lose(row);
        return unfound(had);
    }

    // ---- what is told

    public int feed(int letter) {
        if (!within(letter, 0, 255)) {
            return BAD;
        }
        return tape.add(letter) ? tape.length() : FULL;
    }

    public int town() {
        int fault = tape.read(told);
        tape.clear();
        if (fault != 0) {
            latestFault = fault;
            return FAULTS - tape.faultPlace();
        }
        now.take(told);
        acts.forget();
        return now.people;
    }

    public int fault() {
        return latestFault;
    }

    public int undo() {
        return acts.takeBack(now) ? acts.size() : STATE;
    }

    // ---- what is done

    public int hours(int n) {
        if (!now.stands()) {
            return STATE;
        }
        if (!within(n, 1, MOST_ACTS)) {
            return BAD;
        }
        if (now.hour + n > LAST_HOUR) {
            return FULL;
        }
        errands.foresee(now, n);
        for (int h = 0; h < n; h++) {
            acts.keep(now);
            errands.pass(now);
        }
        return now.arrived();
    }

    public int post(int letter, int lane, int goal) {
        if (!isLetter(letter) || !isLane(lane) || !isLane(goal)) {
            return BAD;
        }
        acts.keep(now);
        now.putOut(letter, lane, goal);
        return now.out;
    }

    public int callBack(int letter) {
        int refusal = refusalOf(letter, true);
        if (refusal != 0) {
            return refusal;
        }
        acts.keep(now);
        now.out &= ~(1 << letter);
        return now.lies[letter];
    }

    public int begin(int person, int n) {
        if (!isPerson(person) || !within(n, 0, MOST_BEGINS)) {
            return BAD;
        }
        int was = now.begins[person];
        acts.keep(now);
        now.begins[person] = n;
        return was;
    }

    public int stay(int person, int home) {
        if (!isPerson(person) || !within(home, 0, 1)) {
            return BAD;
        }
        if (now.isHome(person) == (home == 1)) {
            return STATE;
        }
        acts.keep(now);
        now.home ^= 1 << person;
        return now.home;
    }

    public int person(int person, int what) {
        if (!isPerson(person)) {
            return BAD;
        }
        switch (what) {
            case 0: return now.from[person];
            case 1: return now.to[person];
            case 2: return now.begins[person];
            case 3: return now.whereIs(person, 0);
            case 4: return now.whereIs(person, 1);
            case 5: return now.isHome(person) ? 1 : 0;
            default: return BAD;
        }
    }

    public int letter(int letter, int what) {
        if (!isLetter(letter)) {
            return BAD;
        }
        if (what == 0) {
            return now.isOut(letter) ? 1 : 0;
        }
        if (!now.isOut(letter)) {
            return BAD;
        }
        switch (what) {
            case 1: return now.lies[letter];
            case 2: return now.goal[letter];
            case 3: return foretold.nextCarrier(now, letter);
            default: return BAD;
        }
    }

    public int lane(int lane) {
        return isLane(lane) ? now.peopleIn(lane) : BAD;
    }

    // ---- foretold

    public int ahead(int person, int n) {
        if (!isPerson(person) || !within(n, 0, MOST_AHEAD)) {
            return BAD;
        }
        return now.whereIs(person, n);
    }

    public int letterAhead(int letter, int n) {
        int refusal = refusalOf(letter, within(n, 0, MOST_AHEAD));
        return refusal != 0 ? refusal : foretold.placeBehind(now, letter, n);
    }

    public int arrives(int letter) {
        int refusal = refusalOf(letter, true);
        return refusal != 0 ? refusal : foretold.arrival(now, letter);
    }

    public int carriers(int letter, int n) {
        int refusal = refusalOf(letter, isSpan(n));
        return refusal != 0 ? refusal : foretold.carriersOf(now, letter, n);
    }

    public int bestHour(int lane, int goal, int what) {
        if (!isLane(lane) || !isLane(goal) || lane == goal || !within(what, 0, 1)) {
            return BAD;
        }
        return foretold.soonest(now, lane, goal, what);
    }

    public int spots(int goal, int n) {
        if (!isLane(goal) || !isSpan(n)) {
            return BAD;
        }
        return foretold.spotsFor(now, goal, n);
    }

    public int cutOff() {
        return now.stands() ? foretold.unreached(now) : STATE;
    }

    public int crew(int letter, int n, int what) {
        int refusal = refusalOf(letter, isSpan(n) && within(what, 0, 1));
        return refusal != 0 ? refusal : foretold.fewest(now, letter, n, what);
    }

    public int needed(int letter, int n) {
        int refusal = refusalOf(letter, isSpan(n));
        return refusal != 0 ? refusal : foretold.neededFor(now, letter, n);
    }

    public int meet(int person, int other) {
        if (!isPerson(person) || !isPerson(other) || person == other) {
            return BAD;
        }
        return foretold.meeting(now, person, other);
    }

    public int answer(int letter) {
        int refusal = refusalOf(letter, true);
        return refusal != 0 ? refusal : foretold.answerTo(now, letter);
    }

    public int who(int person, int which, int letter, int row, int i, int n) {
        boolean good = isPerson(person) && within(which, 0, 1);
        int refusal = refusalOfTold(letter, good, row, i, n);
        if (refusal != 0) {
            return refusal;
        }
        return unfound(which == 0 ? foretold.kindsThatFit(now, person, letter)
                : foretold.beginsThatFit(now, person, letter));
    }

    public int missing(int letter, int row, int i, int n) {
        int refusal = refusalOfTold(letter, true, row, i, n);
        return refusal != 0 ? refusal : unfound(foretold.absentThatFit(now, letter));
    }

    public int goals(int letter, int row, int i, int n) {
        int refusal = refusalOfTold(letter, true, row, i, n);
        return refusal != 0 ? refusal : unfound(foretold.goalsThatFit(now, letter));
    }

    public int busy(int n, int what) {
        if (!now.stands()) {
            return STATE;
        }
        if (!isSpan(n) || !within(what, 0, 1)) {
            return BAD;
        }
        return foretold.busiest(now, n, what);
    }

    public long sick(int letter, int n, int p, int what) {
        boolean good = within(n, 0, MOST_AHEAD) && within(p, 0, 10) && within(what, 0, 1);
        int refusal = refusalOf(letter, good);
        return refusal != 0 ? refusal : foretold.likelihood(now, letter, n, p, what);
    }

    public int drawn(int n, int seed, int what) {
        if (!now.stands()) {
            return STATE;
        }
        if (!within(n, 0, MOST_AHEAD) || !within(seed, 1, MOST_SEED) || !within(what, 0, 1)) {
            return BAD;
        }
        return foretold.weeks(now, n, seed, what);
    }

    public int image(int k) {
        if (!within(k, 0, IMAGES - 1)) {
            return BAD;
        }
        if (!now.stands()) {
            return STATE;
        }
        images[k].take(now);
        return 1;
    }

    public int restore(int k) {
        if (!within(k, 0, IMAGES - 1)) {
            return BAD;
        }
        if (!images[k].stands()) {
            return STATE;
        }
        now.take(images[k]);
        acts.forget();
        return 1;
    }

    // ---- asked

    public int kind(int one) {
        return isPerson(one) ? now.kinds[one] : BAD;
    }

    public int as(int one, int kind) {
        if (!isPerson(one) || !within(kind, 0, BLIND)) {
            return BAD;
        }
        return Asks.isOne(now.kinds[one], kind) ? unfound(one) : found(KIND);
    }

    public int ask(int one, int what) {
        if (!isPerson(one) || !within(what, Asks.SIZE_ASK, Asks.MARK_ASK)) {
            return BAD;
        }
        return asks.put(now, one, what);
    }

    public int trace(int i) {
        return asks.traced(i);
    }

    public int count(int what) {
        switch (what) {
            case 0: return rows.howMany();
            case 1: return now.lanes;
            case 2: return now.people;
            case 3: return now.hour;
            case 4: return now.out;
            case 5: return now.home;
            case 6: return acts.size();
            case 7: return tape.length();
            default: return BAD;
        }
    }

    public int status() {
        return latestFinding;
    }

    // ---- what is refused

    private static boolean within(int n, int least, int most) {
        return n >= least && n <= most;
    }

    private static boolean isSpan(int n) {
        return within(n, 1, MOST_AHEAD);
    }

    private boolean isPerson(int p) {
        return p >= 0 && p < now.people;
    }

    private boolean isLane(int l) {
        return l >= 0 && l < now.lanes;
    }

    private boolean isLetter(int l) {
        return now.stands() && within(l, 0, MOST_LETTERS - 1);
    }

    /** BAD goes ahead of STATE, so the other numbers of a call are looked at here, too; 0: neither. */
    private int refusalOf(int letter, boolean othersGood) {
        if (!othersGood || !isLetter(letter)) {
            return BAD;
        }
        return now.isOut(letter) ? 0 : STATE;
    }

    /** What a ROW tells of a LETTER is heard, if nothing is refused or found; 0 then. */
    private int refusalOfTold(int letter, boolean othersGood, int row, int i, int n) {
        int refusal = refusalOf(letter, othersGood && Rows.isRow(row) && within(n, 1, MOST_TOLD));
        if (refusal != 0) {
            return refusal;
        }
        int finding = rows.findingOf(row, i, n);
        if (finding != 0) {
            return found(finding);
        }
        foretold.hear(rows, row, i, n);
        return 0;
    }

    private int found(int finding) {
        latestFinding = finding;
        return FINDINGS - finding;
    }

    private int unfound(int answer) {
        latestFinding = 0;
        return answer;
    }

    /** The ROWS; each has room for the most ITEMS from the start, so that no call makes one. */
    private static final class Rows {
        static final int MOST_ROWS = 8, MOST_ITEMS = 40;
        static final int BYTES = 0, SHORTS = 1, INTS = 2;
        private static final int NO_LANE = -1;

        private final int[][] items = new int[MOST_ROWS][MOST_ITEMS];
        private final int[] lanes = new int[MOST_ROWS];
        private final int[] lengths = new int[MOST_ROWS];

        Rows() {
            for (int r = 0; r < MOST_ROWS; r++) {
                lanes[r] = NO_LANE;
            }
        }

        static boolean isRow(int r) {
            return r >= 0 && r < MOST_ROWS;
        }

        boolean isThere(int r) {
            return lanes[r] != NO_LANE;
        }

        int laneOf(int r) {
            return lanes[r];
        }

        int lengthOf(int r) {
            return lengths[r];
        }

        int howMany() {
            int there = 0;
            for (int r = 0; r < MOST_ROWS; r++) {
                there += isThere(r) ? 1 : 0;
            }
            return there;
        }

        void make(int r, int lane, int n) {
            lanes[r] = lane;
            lengths[r] = n;
            for (int i = 0; i < MOST_ITEMS; i++) {
                items[r][i] = 0;
            }
        }

        void lose(int r) {
            lanes[r] = NO_LANE;
            lengths[r] = 0;
        }

        /** Written with a difference, as i + n may be more than an int holds. */
        boolean hasPlaces(int r, int i, int n) {
            return i >= 0 && n >= 0 && i <= lengths[r] - n;
        }

        /** NULL or PLACE, if n ITEMS from i on can not be had; 0 if they can. */
        int findingOf(int r, int i, int n) {
            if (!isThere(r)) {
                return NULL;
            }
            return hasPlaces(r, i, n) ? 0 : PLACE;
        }

        int itemAt(int r, int i) {
            return items[r][i];
        }

        int put(int r, int i, int v) {
            items[r][i] = cut(lanes[r], v);
            return items[r][i];
        }

        void carryOver(int a, int i, int b, int j, int n) {
            System.arraycopy(items[a], i, items[b], j, n);
        }

        private static int cut(int lane, int v) {
            switch (lane) {
                case BYTES: return (byte) v;
                case SHORTS: return (short) v;
                default: return v;
            }
        }
    }

    /** The bytes that came, and how they are read. The first FAULT ends the reading. */
    private static final class Tape {
        private static final int MOST_BYTES = 120, MOST_FIGURES = 2;
        private static final int CANNOT_STAND = 1, NOT_AS_TOLD = 2, NO_ROOM = 3;
        private static final int LEAST_LANES = 2, MOST_LANES = 9, LEAST_HOURS = 4, MOST_HOURS = 24;

        private final int[] bytes = new int[MOST_BYTES];
        private int length;
        private int at;
        private int faultNumber;
        private int faultPlace;

        boolean add(int b) {
            if (length >= MOST_BYTES) {
                return false;
            }
            bytes[length] = b;
            length++;
            return true;
        }

        int length() {
            return length;
        }

        void clear() {
            length = 0;
        }

        int faultPlace() {
            return faultPlace;
        }

        /** The number of the FAULT; 0: there is none, and the TOWN is as the text tells it. */
        int read(Town into) {
            at = 0;
            faultNumber = 0;
            into.clear();
            readSign('t');
            into.lanes = readNumber(LEAST_LANES, MOST_LANES);
            readSign(',');
            into.hoursOfDay = readNumber(LEAST_HOURS, MOST_HOURS);
            readSign(';');
            readPerson(into);
            for (int p = 1; p <= MOST_PEOPLE && faultNumber == 0 && at < length; p++) {
                readPerson(into);
            }
            return faultNumber;
        }

        private void readPerson(Town into) {
            int kind = readSort(into.people);
            int from = readNumber(0, into.lanes - 1);
            readSign(',');
            int to = readNumber(0, into.lanes - 1);
            readSign(',');
            int begins = readNumber(0, MOST_BEGINS);
            readSign(';');
            if (faultNumber == 0) {
                into.settle(kind, from, to, begins);
            }
        }

        private int readSort(int peopleBefore) {
            int kind = at < length ? kindOf(bytes[at]) : 0;
            if (kind == 0) {
                fail(CANNOT_STAND);
            } else if (peopleBefore >= MOST_PEOPLE) {
                fail(NO_ROOM);
            }
            at++;
            return kind;
        }

        private static int kindOf(int b) {
            switch (b) {
                case 'w': return WALKER;
                case 'c': return CHILD;
                case 'd': return DRUNKARD;
                case 'm': return MAID;
                case 'b': return BLIND;
                default: return 0;
            }
        }

        private void readSign(int sign) {
            if (at >= length || bytes[at] != sign) {
                fail(CANNOT_STAND);
            }
            at++;
        }

        private int readNumber(int least, int most) {
            int first = at;
            int value = 0;
            for (int i = first; i < length && isFigure(bytes[i]) && at - first <= MOST_FIGURES; i++) {
                value = value * 10 + bytes[i] - '0';
                at++;
            }
            int figures = at - first;
            if (figures == 0 || figures > MOST_FIGURES) {
                failAt(CANNOT_STAND, first);
            } else if (!within(value, least, most)) {
                failAt(NOT_AS_TOLD, first);
            }
            return value;
        }

        private static boolean isFigure(int b) {
            return b >= '0' && b <= '9';
        }

        private void fail(int number) {
            failAt(number, at);
        }

        /** What is behind the first FAULT is read on askew, and what it finds is not told. */
        private void failAt(int number, int place) {
            if (faultNumber == 0) {
                faultNumber = number;
                faultPlace = place;
            }
        }
    }

    /** A TOWN: its law, its PEOPLE, and all that ACTS change. Without LANES there is none. */
    private static final class Town {
        int lanes;
        int hoursOfDay;
        int people;
        int hour;
        int out;
        int home;
        final int[] kinds = new int[MOST_PEOPLE];
        final int[] from = new int[MOST_PEOPLE];
        final int[] to = new int[MOST_PEOPLE];
        final int[] begins = new int[MOST_PEOPLE];
        final int[] lies = new int[MOST_LETTERS];
        final int[] goal = new int[MOST_LETTERS];

        boolean stands() {
            return lanes > 0;
        }

        void clear() {
            lanes = 0;
            hoursOfDay = 0;
            people = 0;
            hour = 0;
            out = 0;
            home = 0;
        }

        void take(Town other) {
            lanes = other.lanes;
            hoursOfDay = other.hoursOfDay;
            people = other.people;
            home = other.home;
            for (int p = 0; p < MOST_PEOPLE; p++) {
                kinds[p] = other.kinds[p];
                from[p] = other.from[p];
                to[p] = other.to[p];
                begins[p] = other.begins[p];
            }
            takeLetters(other);
        }

        /** An HOUR changes these alone, so a trial that begins anew needs no more. */
        void takeLetters(Town other) {
            hour = other.hour;
            out = other.out;
            for (int l = 0; l < MOST_LETTERS; l++) {
                lies[l] = other.lies[l];
                goal[l] = other.goal[l];
            }
        }

        void settle(int kind, int start, int end, int begin) {
            if (people < MOST_PEOPLE) {
                kinds[people] = kind;
                from[people] = start;
                to[people] = end;
                begins[people] = begin;
                people++;
            }
        }

        void putOut(int l, int lane, int end) {
            out |= 1 << l;
            lies[l] = lane;
            goal[l] = end;
        }

        boolean isOut(int l) {
            return (out >> l & 1) == 1;
        }

        boolean isThere(int l) {
            return (out >> l & 1) == 1 && lies[l] == goal[l];
        }

        boolean isUnderWay(int l) {
            return (out >> l & 1) == 1 && lies[l] != goal[l];
        }

        int arrived() {
            int bits = 0;
            for (int l = 0; l < MOST_LETTERS; l++) {
                bits |= isThere(l) ? 1 << l : 0;
            }
            return bits;
        }

        boolean isHome(int p) {
            return (home >> p & 1) == 1;
        }

        int everybody() {
            return (1 << people) - 1;
        }

        int whereIs(int p, int hoursAhead) {
            return isHome(p) ? from[p] : placeOnErrand(p, hour + hoursAhead);
        }

        int peopleIn(int lane) {
            int bits = 0;
            for (int p = 0; p < people; p++) {
                bits |= whereIs(p, 0) == lane ? 1 << p : 0;
            }
            return bits;
        }

        /** Where a PERSON is who does not stay AT HOME. */
        int placeOnErrand(int p, int hourThen) {
            if (hoursOfDay < 1) {
                return from[p];
            }
            int late = Math.max(hourThen % hoursOfDay - begins[p], 0);
            boolean oddDay = hourThen / hoursOfDay % 2 == 1;
            int way = to[p] - from[p];
            int gone = Math.min(stepsOf(kinds[p], late, oddDay), Math.abs(way));
            return way < 0 ? from[p] - gone : from[p] + gone;
        }

        private static int stepsOf(int kind, int late, boolean oddDay) {
            switch (kind) {
                case DRUNKARD: return late / 2;
                case MAID: return oddDay ? 0 : late;
                case BLIND: return oddDay ? 0 : 2 * late;
                default: return late;
            }
        }
    }

    /** The ACTS that can be undone: each is kept as the TOWN that was ahead of it. */
    private static final class Acts {
        private final Town[] before = new Town[MOST_ACTS];
        private int oldest;
        private int size;

        Acts() {
            for (int a = 0; a < MOST_ACTS; a++) {
                before[a] = new Town();
            }
        }

        int size() {
            return size;
        }

        void forget() {
            oldest = 0;
            size = 0;
        }

        void keep(Town town) {
            if (size == MOST_ACTS) {
                oldest = (oldest + 1) % MOST_ACTS;
                size--;
            }
            before[(oldest + size) % MOST_ACTS].take(town);
            size++;
        }

        boolean takeBack(Town town) {
            if (size == 0) {
                return false;
            }
            size--;
            town.take(before[(oldest + size) % MOST_ACTS]);
            return true;
        }
    }

    /**
     * How LETTERS go by PEOPLE, HOUR by HOUR. Where all PEOPLE will be is worked out once for
     * many trials, as if nobody stayed AT HOME: who does is left out when a LETTER is carried.
     */
    private static final class Errands {
        /** An answer may take the most HOURS there and the most back. */
        static final int MOST_SPAN = 2 * MOST_AHEAD;

        private final int[][] places = new int[MOST_PEOPLE][MOST_SPAN + 1];
        private final int[] goingUp = new int[MOST_SPAN];
        private final int[] goingDown = new int[MOST_SPAN];
        private final int[] carriers = new int[MOST_LETTERS];
        private int first;
        private int span;
        /** PEOPLE who carry all they can in this HOUR, and children who carry one of two. */
        private int laden;
        private int halfLaden;

        void foresee(Town town, int hoursAhead) {
            first = town.hour;
            span = Math.min(Math.max(hoursAhead, 0), MOST_SPAN);
            for (int h = 0; h < span; h++) {
                goingUp[h] = 0;
                goingDown[h] = 0;
            }
            for (int p = 0; p < town.people; p++) {
                foreseeOne(town, p);
            }
        }

        private void foreseeOne(Town town, int p) {
            places[p][0] = town.placeOnErrand(p, first);
            for (int h = 0; h < span; h++) {
                int next = town.placeOnErrand(p, first + h + 1);
                places[p][h + 1] = next;
                goingUp[h] |= next > places[p][h] ? 1 << p : 0;
                goingDown[h] |= next < places[p][h] ? 1 << p : 0;
            }
        }

        /** An HOUR passes; it must be one of those that were foreseen. */
        void pass(Town town) {
            int h = town.hour - first;
            if (h < 0 || h >= span) {
                return;
            }
            laden = 0;
            halfLaden = 0;
            for (int l = 0; l < MOST_LETTERS; l++) {
                carriers[l] = carrierOf(town, l, h);
                if (carriers[l] != NONE) {
                    carryOn(town, l, h);
                }
            }
            town.hour++;
        }

        private int carrierOf(Town town, int l, int h) {
            if (!town.isUnderWay(l)) {
                return NONE;
            }
            int going = town.goal[l] > town.lies[l] ? goingUp[h] : goingDown[h];
            int free = going & ~town.home & ~laden;
            if (free == 0) {
                return NONE;
            }
            for (int p = 0; p < town.people; p++) {
                if ((free >> p & 1) == 1 && places[p][h] == town.lies[l]) {
                    return p;
                }
            }
            return NONE;
        }

        private void carryOn(Town town, int l, int h) {
            int p = carriers[l];
            int next = places[p][h + 1];
            boolean up = town.goal[l] > town.lies[l];
            town.lies[l] = up ? Math.min(next, town.goal[l]) : Math.max(next, town.goal[l]);
            if (town.kinds[p] == CHILD && (halfLaden >> p & 1) == 0) {
                halfLaden |= 1 << p;
            } else {
                laden |= 1 << p;
            }
        }

        /** Who carried a LETTER in the HOUR that passed last; NONE. */
        int carrierThen(int l) {
            return carriers[l];
        }
    }

    /** What would be. All of it is tried on a TOWN of its own; the one that is asked of stays. */
    private static final class Foretold {
        private static final long MULTIPLIER = 16807, MODULUS = 2147483647;

        private final Errands errands;
        private final Town trial = new Town();
        private final Town later = new Town();
        private final int[] carried = new int[MOST_PEOPLE];
        private final int[] heard = new int[MOST_TOLD];
        private int heardHours;

        Foretold(Errands errands) {
            this.errands = errands;
        }

        private void prepare(Town now, int span) {
            trial.take(now);
            errands.foresee(now, span);
        }

        /** Behind how many HOURS a LETTER of the trial is at its GOAL; NONE. The trial goes along. */
        private int goUntilThere(int l, int most) {
            for (int h = 0; h <= most; h++) {
                if (trial.isThere(l)) {
                    return h;
                }
                if (h < most) {
                    errands.pass(trial);
                }
            }
            return NONE;
        }

        int nextCarrier(Town now, int l) {
            prepare(now, 1);
            errands.pass(trial);
            return errands.carrierThen(l);
        }

        int placeBehind(Town now, int l, int n) {
            prepare(now, n);
            for (int h = 0; h < n; h++) {
                errands.pass(trial);
            }
            return trial.lies[l];
        }

        int arrival(Town now, int l) {
            prepare(now, MOST_AHEAD);
            return goUntilThere(l, MOST_AHEAD);
        }

        int carriersOf(Town now, int l, int n) {
            prepare(now, n);
            int bits = 0;
            for (int h = 0; h < n; h++) {
                errands.pass(trial);
                int carrier = errands.carrierThen(l);
                bits |= carrier != NONE ? 1 << carrier : 0;
            }
            return bits;
        }

        /** POST: k (what = 0), or the HOURS from now; a later k wins if it is as soon there. */
        int soonest(Town now, int lane, int goal, int what) {
            prepare(now, MOST_AHEAD);
            later.take(now);
            int bestStart = NONE;
            int best = MOST_AHEAD;
            for (int k = 0; k < now.hoursOfDay; k++) {
                trial.takeLetters(later);
                trial.putOut(TRIAL_LETTER, lane, goal);
                int under = goUntilThere(TRIAL_LETTER, best - k);
                if (under != NONE) {
                    bestStart = k;
                    best = k + under;
                }
                errands.pass(later);
            }
            return what == 0 || bestStart == NONE ? bestStart : best;
        }

        /** Whether a LETTER that is posted now is there; the HOURS are foreseen already. */
        private boolean reaches(Town now, int lane, int goal, int n) {
            trial.takeLetters(now);
            trial.putOut(TRIAL_LETTER, lane, goal);
            return goUntilThere(TRIAL_LETTER, n) != NONE;
        }

        int spotsFor(Town now, int goal, int n) {
            prepare(now, n);
            int bits = 0;
            for (int lane = 0; lane < now.lanes; lane++) {
                bits |= reaches(now, lane, goal, n) ? 1 << lane : 0;
            }
            return bits;
        }

        int unreached(Town now) {
            prepare(now, MOST_AHEAD);
            int bits = (1 << now.lanes) - 1;
            for (int goal = 0; goal < now.lanes; goal++) {
                for (int lane = 0; lane < now.lanes && (bits >> goal & 1) == 1; lane++) {
                    bits &= lane != goal && reaches(now, lane, goal, MOST_AHEAD) ? ~(1 << goal) : -1;
                }
            }
            return bits;
        }

        /** Whether a LETTER is there if these stay AT HOME; the HOURS are foreseen already. */
        private boolean isThereWith(Town now, int home, int l, int n) {
            trial.takeLetters(now);
            trial.home = home;
            return goUntilThere(l, n) != NONE;
        }

        /** CREW: how many (what = 0), or which; as sets grow, the least of a size comes first. */
        int fewest(Town now, int l, int n, int what) {
            prepare(now, n);
            int all = now.everybody();
            int best = NONE;
            for (int set = 0; set <= all; set++) {
                boolean isFewer = best == NONE || Integer.bitCount(set) < Integer.bitCount(best);
                if ((set & now.home) == 0 && isFewer && isThereWith(now, all & ~set, l, n)) {
                    best = set;
                }
            }
            return what == 0 && best != NONE ? Integer.bitCount(best) : best;
        }

        int neededFor(Town now, int l, int n) {
            prepare(now, n);
            if (!isThereWith(now, now.home, l, n)) {
                return 0;
            }
            int bits = 0;
            for (int p = 0; p < now.people; p++) {
                if (!now.isHome(p) && !isThereWith(now, now.home | 1 << p, l, n)) {
                    bits |= 1 << p;
                }
            }
            return bits;
        }

        int meeting(Town now, int p, int other) {
            for (int h = 0; h <= MOST_AHEAD; h++) {
                if (now.whereIs(p, h) == now.whereIs(other, h)) {
                    return h;
                }
            }
            return NONE;
        }

        int answerTo(Town now, int l) {
            prepare(now, Errands.MOST_SPAN);
            int there = goUntilThere(l, MOST_AHEAD);
            if (there == NONE) {
                return NONE;
            }
            trial.putOut(TRIAL_LETTER, now.goal[l], now.lies[l]);
            int back = goUntilThere(TRIAL_LETTER, MOST_AHEAD);
            return back == NONE ? NONE : there + back;
        }

        /** What a ROW tells is kept for the trials that come. */
        void hear(Rows rows, int row, int i, int n) {
            heardHours = Math.min(n, MOST_TOLD);
            for (int h = 0; h < heardHours; h++) {
                heard[h] = rows.itemAt(row, i + h);
            }
        }

        /** Whether the trial goes as it was heard of a LETTER. */
        private boolean fits(int l) {
            for (int h = 0; h < heardHours; h++) {
                errands.pass(trial);
                if (trial.lies[l] != heard[h]) {
                    return false;
                }
            }
            return true;
        }

        int kindsThatFit(Town now, int p, int l) {
            int bits = 0;
            trial.take(now);
            for (int kind = WALKER; kind <= BLIND; kind++) {
                trial.takeLetters(now);
                trial.kinds[p] = kind;
                errands.foresee(trial, heardHours);
                bits |= fits(l) ? 1 << kind : 0;
            }
            return bits;
        }

        int beginsThatFit(Town now, int p, int l) {
            int bits = 0;
            trial.take(now);
            for (int begins = 0; begins <= MOST_BEGINS; begins++) {
                trial.takeLetters(now);
                trial.begins[p] = begins;
                errands.foresee(trial, heardHours);
                bits |= fits(l) ? 1 << begins : 0;
            }
            return bits;
        }

        int absentThatFit(Town now, int l) {
            prepare(now, heardHours);
            int bits = fits(l) ? AS_IT_IS : 0;
            for (int p = 0; p < now.people; p++) {
                trial.takeLetters(now);
                trial.home = now.home | 1 << p;
                if (!now.isHome(p) && fits(l)) {
                    bits |= 1 << p;
                }
            }
            return bits;
        }

        int goalsThatFit(Town now, int l) {
            prepare(now, heardHours);
            int bits = 0;
            for (int goal = 0; goal < now.lanes; goal++) {
                trial.takeLetters(now);
                trial.goal[l] = goal;
                bits |= fits(l) ? 1 << goal : 0;
            }
            return bits;
        }

        int busiest(Town now, int n, int what) {
            prepare(now, n);
            for (int p = 0; p < MOST_PEOPLE; p++) {
                carried[p] = 0;
            }
            for (int h = 0; h < n; h++) {
                errands.pass(trial);
                tally();
            }
            int most = 0;
            for (int p = 1; p < now.people; p++) {
                most = carried[p] > carried[most] ? p : most;
            }
            return what == 0 ? most : carried[most];
        }

        /** How many LETTERS were carried in the HOUR that passed last. */
        private int tally() {
            int times = 0;
            for (int l = 0; l < MOST_LETTERS; l++) {
                int carrier = errands.carrierThen(l);
                if (carrier != NONE) {
                    carried[carrier]++;
                    times++;
                }
            }
            return times;
        }

        /** SICK: above (what = 0), or below. */
        long likelihood(Town now, int l, int n, int p, int what) {
            prepare(now, n);
            int all = now.everybody();
            int able = all & ~now.home;
            long above = 0;
            for (int ill = 0; ill <= all; ill++) {
                long cases = power(p, Integer.bitCount(ill)) * power(10 - p, Integer.bitCount(able & ~ill));
                if ((ill & ~able) == 0 && cases > 0 && isThereWith(now, now.home | ill, l, n)) {
                    above += cases;
                }
            }
            long below = power(10, Integer.bitCount(able));
            long divisor = Math.max(commonDivisor(above, below), 1);
            return (what == 0 ? above : below) / divisor;
        }

        private static long power(long base, int times) {
            long product = 1;
            for (int i = 0; i < times; i++) {
                product *= base;
            }
            return product;
        }

        private static long commonDivisor(long a, long b) {
            long rest = a;
            long divisor = b;
            // Euclid's way needs under fifty steps for any numbers up to a million
            for (int i = 0; i < 64 && rest != 0; i++) {
                long next = divisor % rest;
                divisor = rest;
                rest = next;
            }
            return divisor;
        }

        /** WEEKS: how many are at their GOALS (what = 0), or how often one was carried. */
        int weeks(Town now, int n, int seed, int what) {
            prepare(now, n);
            long x = seed;
            int times = 0;
            for (int h = 0; h < n; h++) {
                x = x * MULTIPLIER % MODULUS;
                if (x % 5 == 0 && now.lanes > 0) {
                    int lane = (int) (x % now.lanes);
                    trial.putOut((int) (x % MOST_LETTERS), lane, now.lanes - 1 - lane);
                }
                errands.pass(trial);
                times += tally();
            }
            return what == 0 ? Integer.bitCount(trial.arrived()) : times;
        }
    }

    /** The ASKS: which BODY answers goes by the KIND, then by the KINDS above it. */
    private static final class Asks {
        static final int SIZE_ASK = 0, MARK_ASK = 1;
        private static final int MOST_TRACED = 16, DEEPEST = 12, KINDS = 6;
        private static final int NOT_TOLD = 0;
        private static final int[] KIND_ABOVE = {0, 0, 1, 1, 0, 4};
        private static final int[] SIZE_BODIES = {10, 11, 12, 0, 13, 14};
        private static final int[] MARK_BODIES = {20, 21, 24, 22, 23, 0};

        private final int[] traces = new int[MOST_TRACED];
        private int length;

        static boolean isOne(int kind, int other) {
            int each = kind;
            for (int i = 0; i < KINDS && each != other && each != 0; i++) {
                each = KIND_ABOVE[each];
            }
            return each == other;
        }

        int traced(int i) {
            return i >= 0 && i < length ? traces[i] : NONE;
        }

        int put(Town town, int p, int what) {
            length = 0;
            return asked(town, p, what, 0);
        }

        private int asked(Town town, int p, int what, int depth) {
            int[] bodies = what == SIZE_ASK ? SIZE_BODIES : MARK_BODIES;
            int each = town.kinds[p];
            for (int i = 0; i < KINDS && bodies[each] == NOT_TOLD; i++) {
                each = KIND_ABOVE[each];
            }
            return given(town, p, bodies[each], depth + 1);
        }

        /** What a BODY gives. No KIND asks in a ring; the depth only makes sure of it. */
        private int given(Town town, int p, int body, int depth) {
            if (depth > DEEPEST) {
                return 0;
            }
            leave(body);
            int d = depth + 1;
            switch (body) {
                case 10: return town.begins[p];
                case 11: return given(town, p, 10, d) + asked(town, p, MARK_ASK, d);
                case 12: return -given(town, p, 11, d);
                case 13: return given(town, p, 10, d) - 100;
                case 14: return given(town, p, 13, d) * 2;
                case 20: return p;
                case 21: return given(town, p, 20, d) + town.whereIs(p, 0);
                case 22: return given(town, p, 21, d) - 1000;
                case 23: return given(town, p, 20, d) - asked(town, p, SIZE_ASK, d);
                case 24: return given(town, p, 21, d) * 2;
                default: return 0;
            }
        }

        private void leave(int body) {
            if (length < MOST_TRACED) {
                traces[length] = body;
                length++;
            }
        }
    }
}
