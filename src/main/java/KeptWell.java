import java.util.NoSuchElementException;

/** Two who meet again and again at a well; what it does is told in DOC.md, whose words in capitals stand here too. */
public final class KeptWell {
    public static final int NONE = -1;

    private static final int NO_CORNER = 1000;

    private final Well now = new Well();
    private final Well picture = new Well();
    private boolean anyPicture = false;
    private final Tape tape = new Tape();
    private int wrongByte = NONE;
    private final Pair pair = new Pair(now);
    private final Answer reply = new Answer(now);
    private final Day day = new Day(now);
    private final Walk walk = new Walk(now);
    private final Crowd crowd = new Crowd(now, walk);
    private final Bridge bridge = new Bridge(now);
    private final Fraction told = new Fraction();

    public KeptWell() {
    }

    // ---- the tape ----

    public int feed(int a, int b, int c, int d, int e) {
        if (!tape.hasRoom()) {
            return NONE;
        }
        tape.append(a);
        tape.append(b);
        tape.append(c);
        tape.append(d);
        tape.append(e);
        return tape.length;
    }

    public boolean end(int n) {
        if (n < 0 || n > tape.length) {
            return false;
        }
        tape.length = n;
        return true;
    }

    // ---- the meeting ----

    public void acts(int n) throws IllegalArgumentException {
        needNumber(n, 2, 3);
        now.acts = n;
    }

    public void bring(int a, int b, int first, int second) throws IndexOutOfBoundsException, IllegalArgumentException {
        needAct(a);
        needAct(b);
        needNumber(first, -99, 99);
        needNumber(second, -99, 99);
        now.setBrings(a, b, first, second);
    }

    public void tomorrow(int p, int q) throws IllegalArgumentException {
        needNumber(q, 2, 9);
        needNumber(p, 1, q - 1);
        now.p = p;
        now.q = q;
    }

    // ---- ways ----

    public int way() throws IllegalArgumentException, UnsupportedOperationException {
        wrongByte = tape.readWay();
        tape.length = 0;
        if (wrongByte != NONE) {
            throw new IllegalArgumentException();
        }
        if (now.ways >= Well.MOST_WAYS) {
            throw new UnsupportedOperationException();
        }
        now.putWay(now.ways, tape.text);
        now.ways++;
        return now.ways - 1;
    }

    public int fault() {
        return wrongByte;
    }

    public int mood(int way, int mood, int what) throws IndexOutOfBoundsException, NoSuchElementException {
        needWay(way);
        if (what == 0) {
            return now.moodsOf(way);
        }
        if (what == 1) {
            return now.isBarred(way) ? 1 : 0;
        }
        needWhat(what, 5);
        needMood(way, mood);
        return what == 2 ? now.actOf(way, mood) : now.nextOf(way, mood, what - 3);
    }

    // ---- pairs ----

    public long worth(int a, int moodA, int b, int moodB, int person, boolean below)
            throws IndexOutOfBoundsException, IllegalStateException {
        needWay(a);
        needMood(a, moodA);
        needWay(b);
        needMood(b, moodB);
        needPerson(person);
        needFree(a);
        needFree(b);
        pair.look(a, b, now.p, now.q);
        pair.tellWorth(moodA, moodB, person, told);
        return told.part(below);
    }

    public boolean hold(int a, int b) throws IndexOutOfBoundsException, IllegalStateException {
        needPair(a, b);
        pair.look(a, b, now.p, now.q);
        return pair.firstGain() == NONE;
    }

    public int first(int a, int b) throws IndexOutOfBoundsException, IllegalStateException {
        needPair(a, b);
        pair.look(a, b, now.p, now.q);
        return pair.firstGain();
    }

    public int edge(int a, int b, int q)
            throws IndexOutOfBoundsException, IllegalArgumentException, IllegalStateException {
        needWay(a);
        needWay(b);
        needNumber(q, 2, 12);
        needFree(a);
        needFree(b);
        return pair.leastToHold(a, b, q);
    }

    public int together() {
        return pair.bestTogether();
    }

    public int begin(int a, int b) throws IndexOutOfBoundsException, IllegalStateException {
        needPair(a, b);
        pair.look(a, b, now.p, now.q);
        return pair.costToLeave();
    }

    // ---- the best answer ----

    public int best(int person, int way, int mood) throws IndexOutOfBoundsException, IllegalStateException {
        needAnswer(person, way, mood);
        reply.look(person, way);
        return reply.actIn(mood);
    }

    public long answer(int person, int way, int mood, boolean below)
            throws IndexOutOfBoundsException, IllegalStateException {
        needAnswer(person, way, mood);
        reply.look(person, way);
        reply.tellWorth(mood, told);
        return told.part(below);
    }

    public int all(int way, int what) throws IndexOutOfBoundsException, IllegalStateException, NoSuchElementException {
        needWay(way);
        needTwoActs();
        needFree(way);
        needWhat(what, 3);
        boolean byHolding = what == 0 || what == 3;
        reply.look(1, way);
        int many = 0;
        int least = NONE;
        for (int number = 0; number < 64; number++) {
            now.putSpareWay(number);
            pair.look(way, Well.SPARE_WAY, now.p, now.q);
            if (byHolding ? pair.firstGain() == NONE : isBestAnswer()) {
                many++;
                least = least == NONE ? number : least;
            }
        }
        return what <= 1 ? many : least;
    }

    /** Whether the pair that was looked at brings person 1 as much as the best answer that was looked for. */
    private boolean isBestAnswer() {
        pair.tellWorth(0, 0, 1, told);
        long up = told.up;
        long down = told.down;
        reply.tellWorth(0, told);
        return up == told.up && down == told.down;
    }

    // ---- one day ----

    public int least(int person, boolean threat) throws IndexOutOfBoundsException {
        needPerson(person);
        return threat ? day.threatTo(person) : day.leastOf(person);
    }

    public long lots(int person, boolean below) throws IndexOutOfBoundsException {
        needPerson(person);
        day.tellLots(person, told);
        return told.part(below);
    }

    public int once() {
        return day.steadyPairs();
    }

    public int corner(int k, boolean up) {
        day.findCorners();
        if (k < 0 || k >= day.corners) {
            return NO_CORNER;
        }
        return up ? day.cornersUp.small(k) : day.cornersAcross.small(k);
    }

    public boolean in(int x, int y, int d, boolean kept) throws IllegalArgumentException {
        needNumber(d, 1, 1000);
        needNumber(x, -100000, 100000);
        needNumber(y, -100000, 100000);
        day.findCorners();
        return day.bodyHas(x, y, d) && (!kept || day.mustBeKept(x, y, d));
    }

    public int mild(int keepA, int keepB, int threatA, int threatB) throws IndexOutOfBoundsException {
        needAct(keepA);
        needAct(keepB);
        needAct(threatA);
        needAct(threatB);
        return day.fewestThreatDays(keepA, keepB, threatA, threatB);
    }

    // ---- mistakes ----

    public void mistakes(int e, int f) throws IllegalArgumentException {
        needNumber(f, 1, 9);
        needNumber(e, 0, f - 1);
        now.e = e;
        now.f = f;
    }

    public long doubt(int a, int b, int person, boolean cost, boolean below)
            throws IndexOutOfBoundsException, IllegalStateException {
        needWay(a);
        needWay(b);
        needPerson(person);
        needFree(a);
        needFree(b);
        needTwoActs();
        needTwoMoods(a);
        needTwoMoods(b);
        pair.look(a, b, now.p, now.q);
        pair.tellDoubted(person, cost, told);
        return told.part(below);
    }

    // ---- days ----

    public int row() throws IllegalArgumentException {
        boolean good = tape.isRowOfDays();
        if (good) {
            now.done.takeFrom(tape.bytes);
            now.days = tape.length / 2;
        }
        tape.length = 0;
        if (!good) {
            throw new IllegalArgumentException();
        }
        return now.days;
    }

    public int judge(int a, int b) throws IndexOutOfBoundsException, IllegalStateException {
        needPair(a, b);
        if (now.doesUnknownAct()) {
            throw new IllegalStateException();
        }
        return walk.firstOtherwise(a, b);
    }

    public int brought(int person) throws IndexOutOfBoundsException {
        needPerson(person);
        return walk.broughtByRow(person);
    }

    public int drawn(int a, int b, int days, int seed, int what)
            throws IndexOutOfBoundsException, IllegalArgumentException, IllegalStateException, NoSuchElementException {
        needWay(a);
        needWay(b);
        needNumber(days, 0, 100);
        needFree(a);
        needFree(b);
        if (now.e > 0) {
            needTwoActs();
        }
        needWhat(what, 3);
        return walk.draw(a, b, days, seed, what);
    }

    // ---- the field ----

    public void field(int way, int n) throws IndexOutOfBoundsException, IllegalArgumentException {
        needWay(way);
        needNumber(n, 0, 1000);
        now.beings.put(way, n);
    }

    public void rounds(int n) throws IllegalArgumentException {
        needNumber(n, 1, 30);
        now.rounds = n;
    }

    public int meet(int a, int b) throws IndexOutOfBoundsException, IllegalStateException {
        needPair(a, b);
        return walk.gotInRounds(a, b);
    }

    public int grow(int steps) throws IllegalArgumentException {
        needNumber(steps, 0, 50);
        return crowd.growSteps(steps);
    }

    public int beings(int way) throws IndexOutOfBoundsException {
        needWay(way);
        return now.beings.small(way);
    }

    public boolean stays(int way) throws IndexOutOfBoundsException, IllegalStateException {
        needWay(way);
        needFree(way);
        return crowd.keepsOthersOut(way);
    }

    // ---- the village ----

    public int villager(int cost, int gain) throws IllegalArgumentException, UnsupportedOperationException {
        needNumber(cost, 0, 999);
        needNumber(gain, 1, 99);
        if (now.villagers >= Well.MOST_VILLAGERS) {
            throw new UnsupportedOperationException();
        }
        now.costs.put(now.villagers, cost);
        now.gains.put(now.villagers, gain);
        now.villagers++;
        return now.villagers - 1;
    }

    public int villageEdge(int who, boolean below) throws IndexOutOfBoundsException {
        if (who < 0 || who >= now.villagers) {
            throw new IndexOutOfBoundsException();
        }
        bridge.tellEdge(who, now.villagers, told);
        return (int) told.part(below);
    }

    public int village(int what) throws NoSuchElementException {
        needWhat(what, 2);
        if (what == 0) {
            return bridge.weakest();
        }
        if (what == 1) {
            return bridge.isHeldWithout(0) ? 1 : 0;
        }
        return bridge.fewestOut();
    }

    // ---- the image ----

    public void image() {
        picture.takeFrom(now);
        anyPicture = true;
    }

    public boolean back() {
        if (!anyPicture) {
            return false;
        }
        now.takeFrom(picture);
        return true;
    }

    public int count(int what) {
        switch (what) {
            case 0:
                return now.acts;
            case 1:
                return now.ways;
            case 2:
                return now.barredWays();
            case 3:
                return now.p;
            case 4:
                return now.q;
            case 5:
                return now.e;
            case 6:
                return now.f;
            case 7:
                return now.days;
            case 8:
                return now.allBeings();
            case 9:
                return now.rounds;
            case 10:
                return now.villagers;
            case 11:
                day.findCorners();
                return day.corners;
            default:
                return NONE;
        }
    }

    // ---- what a call needs ----

    private void needNumber(int n, int least, int most) {
        if (n < least || n > most) {
            throw new IllegalArgumentException();
        }
    }

    private void needWhat(int what, int most) {
        if (what < 0 || what > most) {
            throw new NoSuchElementException();
        }
    }

    private void needPerson(int person) {
        if (person < 0 || person > 1) {
            throw new IndexOutOfBoundsException();
        }
    }

    private void needAct(int act) {
        if (act < 0 || act >= now.acts) {
            throw new IndexOutOfBoundsException();
        }
    }

    private void needWay(int way) {
        if (way < 0 || way >= now.ways) {
            throw new IndexOutOfBoundsException();
        }
    }

    private void needMood(int way, int mood) {
        if (mood < 0 || mood >= now.moodsOf(way)) {
            throw new IndexOutOfBoundsException();
        }
    }

    private void needPair(int a, int b) {
        needWay(a);
        needWay(b);
        needFree(a);
        needFree(b);
    }

    private void needAnswer(int person, int way, int mood) {
        needPerson(person);
        needWay(way);
        needMood(way, mood);
        needFree(way);
    }

    private void needFree(int way) {
        if (now.isBarred(way)) {
            throw new IllegalStateException();
        }
    }

    private void needTwoActs() {
        if (now.acts != 2) {
            throw new IllegalStateException();
        }
    }

    private void needTwoMoods(int way) {
        if (now.moodsOf(way) > 2) {
            throw new IllegalStateException();
        }
    }

    /** A row of numbers each place of which is tested before it is used. */
    private static final class Row {
        private final long[] cells;

        Row(int size) {
            cells = new long[Math.max(size, 0)];
        }

        long at(int i) {
            return i < 0 || i >= cells.length ? 0 : cells[i];
        }

        int small(int i) {
            return i < 0 || i >= cells.length ? 0 : (int) cells[i];
        }

        void put(int i, long value) {
            if (i >= 0 && i < cells.length) {
                cells[i] = value;
            }
        }

        void add(int i, long value) {
            put(i, at(i) + value);
        }

        void setAll(long value) {
            for (int i = 0; i < cells.length; i++) {
                cells[i] = value;
            }
        }

        void takeFrom(Row other) {
            for (int i = 0; i < cells.length; i++) {
                cells[i] = other.at(i);
            }
        }
    }

    /** A FRACTION, told without a common part and with the lower number above 0. */
    private static final class Fraction {
        /** More steps than any two long numbers need for their common part. */
        private static final int MOST_STEPS = 200;

        long up = 0;
        long down = 1;

        void be(long newUp, long newDown) {
            long common = commonPart(newUp, newDown);
            if (newDown <= 0 || common == 0) {
                up = 0;
                down = 1;
                return;
            }
            up = newUp / common;
            down = newDown / common;
        }

        long part(boolean below) {
            return below ? down : up;
        }

        static long commonPart(long a, long b) {
            long x = Math.abs(a);
            long y = Math.abs(b);
            for (int i = 0; i < MOST_STEPS && y != 0; i++) {
                long rest = x % y;
                x = y;
                y = rest;
            }
            return x;
        }

        /**
         * Below 0, 0 or above 0 as the first fraction is less, the same or more: by whole parts and turned rests, for
         * the products across would not always fit. Lower numbers are above 0.
         */
        static int order(long upA, long downA, long upB, long downB) {
            long a = upA;
            long underA = downA;
            long b = upB;
            long underB = downB;
            int sign = 1;
            for (int i = 0; i < MOST_STEPS; i++) {
                if (underA <= 0 || underB <= 0) {
                    return 0;
                }
                long wholeA = Math.floorDiv(a, underA);
                long wholeB = Math.floorDiv(b, underB);
                long restA = a - wholeA * underA;
                long restB = b - wholeB * underB;
                if (wholeA != wholeB) {
                    return wholeA < wholeB ? -sign : sign;
                }
                if (restA == 0 || restB == 0) {
                    return restA == restB ? 0 : restA == 0 ? -sign : sign;
                }
                a = underA;
                b = underB;
                underA = restA;
                underB = restB;
                sign = -sign;
            }
            return 0;
        }
    }

    /** All that THE IMAGE keeps. */
    private static final class Well {
        static final int MOST_ACTS = 3;
        static final int MOST_MOODS = 3;
        static final int MOST_WAYS = 8;
        /** Where one of ALL WAYS stands while it is looked at; it is no WAY of the meeting. */
        static final int SPARE_WAY = 8;
        static final int MOST_VILLAGERS = 6;
        /** Of a way: how many moods, then of each mood the act and where each act seen leads. */
        static final int WAY_CELLS = 13;
        static final int MOOD_CELLS = 4;

        int acts = 2;
        int p = 1;
        int q = 2;
        int e = 0;
        int f = 1;
        int rounds = 10;
        int ways = 0;
        int days = 0;
        int villagers = 0;
        final Row brings = new Row(18);
        final Row texts = new Row((MOST_WAYS + 1) * WAY_CELLS);
        final Row done = new Row(Tape.ROOM);
        final Row beings = new Row(MOST_WAYS);
        final Row costs = new Row(MOST_VILLAGERS);
        final Row gains = new Row(MOST_VILLAGERS);

        void takeFrom(Well other) {
            acts = other.acts;
            p = other.p;
            q = other.q;
            e = other.e;
            f = other.f;
            rounds = other.rounds;
            ways = other.ways;
            days = other.days;
            villagers = other.villagers;
            brings.takeFrom(other.brings);
            texts.takeFrom(other.texts);
            done.takeFrom(other.done);
            beings.takeFrom(other.beings);
            costs.takeFrom(other.costs);
            gains.takeFrom(other.gains);
        }

        void setBrings(int actA, int actB, int toA, int toB) {
            brings.put(2 * (3 * actA + actB), toA);
            brings.put(2 * (3 * actA + actB) + 1, toB);
        }

        int bringsTo(int person, int actA, int actB) {
            return brings.small(2 * (3 * actA + actB) + person);
        }

        /** What a person's own act brings it when the other one does an act. */
        int bringsOwn(int person, int own, int others) {
            return brings.small(person == 0 ? 2 * (3 * own + others) : 2 * (3 * others + own) + 1);
        }

        void putWay(int way, Row text) {
            for (int i = 0; i < WAY_CELLS; i++) {
                texts.put(way * WAY_CELLS + i, text.at(i));
            }
        }

        void putSpareWay(int number) {
            int from = SPARE_WAY * WAY_CELLS;
            texts.put(from, 2);
            for (int mood = 0; mood < 2; mood++) {
                int cell = from + 1 + MOOD_CELLS * mood;
                texts.put(cell, (number >> mood) & 1);
                texts.put(cell + 1, (number >> (2 + 2 * mood)) & 1);
                texts.put(cell + 2, (number >> (3 + 2 * mood)) & 1);
                texts.put(cell + 3, mood);
            }
        }

        int moodsOf(int way) {
            return texts.small(way * WAY_CELLS);
        }

        int actOf(int way, int mood) {
            return texts.small(way * WAY_CELLS + 1 + MOOD_CELLS * mood);
        }

        int nextOf(int way, int mood, int seen) {
            return texts.small(way * WAY_CELLS + 2 + MOOD_CELLS * mood + seen);
        }

        boolean isBarred(int way) {
            int moods = Math.min(moodsOf(way), MOST_MOODS);
            for (int mood = 0; mood < moods; mood++) {
                if (actOf(way, mood) >= acts) {
                    return true;
                }
            }
            return false;
        }

        int barredWays() {
            int many = 0;
            for (int way = 0; way < MOST_WAYS && way < ways; way++) {
                many += isBarred(way) ? 1 : 0;
            }
            return many;
        }

        int allBeings() {
            int many = 0;
            for (int way = 0; way < MOST_WAYS; way++) {
                many += beings.small(way);
            }
            return many;
        }

        boolean doesUnknownAct() {
            for (int i = 0; i < Tape.ROOM && i < 2 * days; i++) {
                if (done.at(i) >= acts) {
                    return true;
                }
            }
            return false;
        }
    }

    /** The TAPE, and the reading of a WAY's text from it, thing by thing. */
    private static final class Tape {
        static final int ROOM = 400;

        private static final int END = 0;
        private static final int WORD = 1;
        private static final int NUMBER = 2;
        private static final int SIGN = 3;
        private static final int BLANK = 32;

        final Row bytes = new Row(ROOM);
        int length = 0;
        /** The latest text that was read, in the cells of a way. */
        final Row text = new Row(Well.WAY_CELLS);
        /** Where each NUMBER is named first; NONE if it is not. */
        private final Row named = new Row(Well.MOST_MOODS);
        private int kind = END;
        private int begin = 0;
        private int after = 0;
        /** The number that was read, NONE if it is no number of this document; or the sign. */
        private int value = 0;

        boolean hasRoom() {
            return length + 20 <= ROOM;
        }

        void append(int four) {
            for (int shift = 24; shift >= 0; shift -= 8) {
                bytes.put(length, (four >>> shift) & 255);
                length++;
            }
        }

        int byteAt(int i) {
            return i < length ? bytes.small(i) : NONE;
        }

        boolean isRowOfDays() {
            for (int i = 0; i < length; i++) {
                if (byteAt(i) >= Well.MOST_ACTS) {
                    return false;
                }
            }
            return length % 2 == 0;
        }

        /** Reads the whole tape as a text: the first wrong byte, or NONE. */
        int readWay() {
            text.setAll(0);
            named.setAll(NONE);
            after = 0;
            step();
            int moods = 0;
            boolean more = true;
            while (more && moods <= Well.MOST_MOODS) {
                if (moods == Well.MOST_MOODS || !readMood(moods)) {
                    return begin;
                }
                moods++;
                more = isSign(';');
                if (more) {
                    step();
                }
            }
            text.put(0, moods);
            return kind == END ? firstStray(moods) : begin;
        }

        private boolean readMood(int mood) {
            int cell = 1 + Well.MOOD_CELLS * mood;
            if (!isWord("does")) {
                return false;
            }
            step();
            if (!isNumber()) {
                return false;
            }
            text.put(cell, value);
            for (int act = 0; act < Well.MOST_ACTS; act++) {
                text.put(cell + 1 + act, mood);
            }
            step();
            for (int i = 0; i < ROOM && isSign(','); i++) {
                step();
                if (!readSeen(cell + 1)) {
                    return false;
                }
            }
            return true;
        }

        private boolean readSeen(int cell) {
            boolean any = isWord("any");
            if (!any && !isNumber()) {
                return false;
            }
            int least = any ? 0 : value;
            int most = any ? Well.MOST_ACTS - 1 : value;
            step();
            if (!isWord("to")) {
                return false;
            }
            step();
            if (!isNumber()) {
                return false;
            }
            if (named.at(value) == NONE) {
                named.put(value, begin);
            }
            for (int act = least; act <= most && act < Well.MOST_ACTS; act++) {
                text.put(cell + act, value);
            }
            step();
            return true;
        }

        private int firstStray(int moods) {
            int first = NONE;
            for (int number = moods; number < Well.MOST_MOODS; number++) {
                int place = named.small(number);
                if (place != NONE && (first == NONE || place < first)) {
                    first = place;
                }
            }
            return first;
        }

        /** Goes on to the next thing: a word, a number, a sign, or the end. */
        private void step() {
            begin = after;
            while (begin < length && byteAt(begin) == BLANK) {
                begin++;
            }
            after = begin;
            value = NONE;
            if (begin >= length) {
                kind = END;
            } else if (isLetter(byteAt(begin))) {
                kind = WORD;
                while (after < length && isLetter(byteAt(after))) {
                    after++;
                }
            } else if (isFigure(byteAt(begin))) {
                kind = NUMBER;
                while (after < length && isFigure(byteAt(after))) {
                    after++;
                }
                int figure = byteAt(begin) - '0';
                value = after == begin + 1 && figure < 3 ? figure : NONE;
            } else {
                kind = SIGN;
                value = byteAt(begin);
                after++;
            }
        }

        private boolean isLetter(int sign) {
            return sign >= 'a' && sign <= 'z';
        }

        private boolean isFigure(int sign) {
            return sign >= '0' && sign <= '9';
        }

        private boolean isNumber() {
            return kind == NUMBER && value != NONE;
        }

        private boolean isSign(int sign) {
            return kind == SIGN && value == sign;
        }

        private boolean isWord(String word) {
            if (kind != WORD || after - begin != word.length()) {
                return false;
            }
            for (int i = 0; i < word.length(); i++) {
                if (byteAt(begin + i) != word.charAt(i)) {
                    return false;
                }
            }
            return true;
        }
    }

    /**
     * Places that follow one another for ever, each with what its day brings to person 0 and to person 1, and what each
     * is worth to them. The worths keep the plain denominators Q^t (Q^n - P^n) of t places ahead of a ring of n: with
     * at most nine places these and their products with what is brought stay far below a long's end.
     */
    private static final class Chain {
        static final int MOST = 9;

        final Row next = new Row(MOST);
        final Row brings = new Row(2 * MOST);
        final Row ups = new Row(2 * MOST);
        /** 0 as long as a place's worth is not known. */
        final Row downs = new Row(MOST);
        private final Row path = new Row(MOST);
        private final Row steps = new Row(MOST);
        private long p = 1;
        private long q = 2;

        /** Without any place. */
        void clear() {
            next.setAll(NONE);
        }

        void put(int place, int then, int toA, int toB) {
            next.put(place, then);
            brings.put(2 * place, toA);
            brings.put(2 * place + 1, toB);
        }

        void reckon(long newP, long newQ) {
            p = newP;
            q = newQ;
            downs.setAll(0);
            for (int place = 0; place < MOST; place++) {
                if (next.at(place) != NONE && downs.at(place) == 0) {
                    settle(place);
                }
            }
        }

        /** Goes on until a place comes again or is known, then back over the whole path. */
        private void settle(int start) {
            steps.setAll(NONE);
            int length = 0;
            int place = start;
            while (length < MOST && downs.at(place) == 0 && steps.at(place) == NONE) {
                path.put(length, place);
                steps.put(place, length);
                length++;
                place = next.small(place);
            }
            int ahead = length;
            if (downs.at(place) == 0) {
                ahead = steps.small(place);
                closeRing(ahead, length, 0);
                closeRing(ahead, length, 1);
            }
            for (int i = ahead - 1; i >= 0; i--) {
                walkBack(path.small(i));
            }
        }

        private void closeRing(int from, int end, int person) {
            long sum = 0;
            long powerP = 1;
            long powerQ = 1;
            for (int i = from; i < end; i++) {
                sum = sum * q + powerP * brings.at(2 * path.small(i) + person);
                powerP *= p;
                powerQ *= q;
            }
            long down = powerQ - powerP;
            // each upper number of a ring is a multiple of Q: so the way back needs no greater denominator
            long overQ = sum;
            for (int i = end - 1; i >= from; i--) {
                int cell = 2 * path.small(i) + person;
                long up = brings.at(cell) * down + p * overQ;
                ups.put(cell, up);
                downs.put(path.small(i), down);
                overQ = q == 0 ? 0 : up / q;
            }
        }

        private void walkBack(int place) {
            int then = next.small(place);
            long down = q * downs.at(then);
            downs.put(place, down);
            for (int person = 0; person < 2; person++) {
                int cell = 2 * place + person;
                ups.put(cell, brings.at(cell) * down + p * ups.at(2 * then + person));
            }
        }

        void tellWorth(int place, int person, Fraction into) {
            into.be(ups.at(2 * place + person), downs.at(place));
        }

        /** How what a day brings with the worth of the next place stands to a place's worth. */
        int orderOf(int brought, int then, int person, int place) {
            long down = q * downs.at(then);
            long up = brought * down + p * ups.at(2 * then + person);
            return Fraction.order(up, down, ups.at(2 * place + person), downs.at(place));
        }
    }

    /** Two WAYS that meet, the first of person 0: look() ahead of all that is asked of a pair. */
    private static final class Pair {
        private final Well well;
        private final Chain chain = new Chain();
        private int a = 0;
        private int b = 0;
        private int moodsA = 0;
        private int moodsB = 0;
        /** The equations of the doubted worths by pairs of two moods, four times four, and what their days bring. */
        private final Row doubts = new Row(16);
        private final Row doubtBrings = new Row(8);

        Pair(Well well) {
            this.well = well;
        }

        void look(int wayA, int wayB, long p, long q) {
            a = wayA;
            b = wayB;
            moodsA = Math.min(well.moodsOf(a), Well.MOST_MOODS);
            moodsB = Math.min(well.moodsOf(b), Well.MOST_MOODS);
            chain.clear();
            for (int moodA = 0; moodA < moodsA; moodA++) {
                for (int moodB = 0; moodB < moodsB; moodB++) {
                    int actA = well.actOf(a, moodA);
                    int actB = well.actOf(b, moodB);
                    chain.put(3 * moodA + moodB, placeAfter(moodA, moodB, actA, actB),
                            well.bringsTo(0, actA, actB), well.bringsTo(1, actA, actB));
                }
            }
            chain.reckon(p, q);
        }

        private int placeAfter(int moodA, int moodB, int actA, int actB) {
            return 3 * well.nextOf(a, moodA, actB) + well.nextOf(b, moodB, actA);
        }

        void tellWorth(int moodA, int moodB, int person, Fraction into) {
            chain.tellWorth(3 * moodA + moodB, person, into);
        }

        /** FIRST, or NONE. */
        int firstGain() {
            for (int moodA = 0; moodA < moodsA; moodA++) {
                for (int moodB = 0; moodB < moodsB; moodB++) {
                    for (int person = 0; person < 2; person++) {
                        if (gainsOtherwise(moodA, moodB, person)) {
                            return 6 * moodA + 2 * moodB + person;
                        }
                    }
                }
            }
            return NONE;
        }

        private boolean gainsOtherwise(int moodA, int moodB, int person) {
            for (int act = 0; act < well.acts; act++) {
                int actA = person == 0 ? act : well.actOf(a, moodA);
                int actB = person == 1 ? act : well.actOf(b, moodB);
                int then = placeAfter(moodA, moodB, actA, actB);
                if (chain.orderOf(well.bringsTo(person, actA, actB), then, person, 3 * moodA + moodB) > 0) {
                    return true;
                }
            }
            return false;
        }

        /** EDGE, or NONE. */
        int leastToHold(int wayA, int wayB, int mostQ) {
            int bestP = 1;
            int bestQ = 1;
            for (int q = 2; q <= mostQ; q++) {
                for (int p = 1; p < q; p++) {
                    if (p * bestQ < bestP * q && Fraction.commonPart(p, q) == 1) {
                        look(wayA, wayB, p, q);
                        boolean holds = firstGain() == NONE;
                        bestP = holds ? p : bestP;
                        bestQ = holds ? q : bestQ;
                    }
                }
            }
            return bestQ == 1 ? NONE : 100 * bestP + bestQ;
        }

        /** TOGETHER, or NONE. */
        int bestTogether() {
            int best = NONE;
            long bestUp = 0;
            long bestDown = 1;
            for (int wayA = 0; wayA < well.ways && wayA < Well.MOST_WAYS; wayA++) {
                for (int wayB = 0; wayB < well.ways && wayB < Well.MOST_WAYS; wayB++) {
                    if (well.isBarred(wayA) || well.isBarred(wayB)) {
                        continue;
                    }
                    look(wayA, wayB, well.p, well.q);
                    if (firstGain() != NONE) {
                        continue;
                    }
                    long up = chain.ups.at(0) + chain.ups.at(1);
                    long down = chain.downs.at(0);
                    if (best == NONE || Fraction.order(up, down, bestUp, bestDown) > 0) {
                        best = 8 * wayA + wayB;
                        bestUp = up;
                        bestDown = down;
                    }
                }
            }
            return best;
        }

        /** BEGIN: what the first place is worth above the others that come, at most, in whole numbers. */
        int costToLeave() {
            long most = 0;
            int place = 0;
            for (int i = 0; i < Chain.MOST; i++) {
                most = Math.max(most, Math.max(lossTo(place, 0), lossTo(place, 1)));
                place = chain.next.small(place);
            }
            return (int) most;
        }

        /** The least whole number that is not below the worth of the first place less that of a later one. */
        private long lossTo(int place, int person) {
            long down = chain.downs.at(0);
            long laterDown = chain.downs.at(place);
            if (down <= 0 || laterDown <= 0) {
                return 0;
            }
            // a later place's denominator is a part of the first one's
            long loss = chain.ups.at(person) - chain.ups.at(2 * place + person) * (down / laterDown);
            return -Math.floorDiv(-loss, down);
        }

        /** DOUBTED WORTH, or its COST. */
        void tellDoubted(int person, boolean cost, Fraction into) {
            fillDoubts();
            long up = 0;
            long down = 0;
            for (int place = 0; place < 4; place++) {
                long cofactor = cofactorOf(place);
                up += doubtBrings.at(2 * place + person) * cofactor;
                down += doubts.at(4 * place) * cofactor;
            }
            into.be(up, down);
            if (cost) {
                up = into.up;
                down = into.down;
                chain.tellWorth(0, person, into);
                into.be(into.up * down - up * into.down, into.down * down);
            }
        }

        private void fillDoubts() {
            doubts.setAll(0);
            doubtBrings.setAll(0);
            for (int place = 0; place < 4; place++) {
                int moodA = place / 2;
                int moodB = place % 2;
                if (moodA < moodsA && moodB < moodsB) {
                    fillDoubt(place, moodA, moodB);
                } else {
                    doubts.put(5 * place, 1);
                }
            }
        }

        /** The worth of a place less P / Q of the worths that may follow is what the day brings; all times Q F F. */
        private void fillDoubt(int place, int moodA, int moodB) {
            int actA = well.actOf(a, moodA);
            int actB = well.actOf(b, moodB);
            long scale = (long) well.q * well.f * well.f;
            doubts.add(5 * place, scale);
            doubtBrings.put(2 * place, scale * well.bringsTo(0, actA, actB));
            doubtBrings.put(2 * place + 1, scale * well.bringsTo(1, actA, actB));
            for (int seenA = 0; seenA < 2; seenA++) {
                for (int seenB = 0; seenB < 2; seenB++) {
                    long chance = chanceOf(seenA == actA) * chanceOf(seenB == actB);
                    int then = 2 * well.nextOf(a, moodA, seenB) + well.nextOf(b, moodB, seenA);
                    doubts.add(4 * place + then, -well.p * chance);
                }
            }
        }

        private long chanceOf(boolean seenRight) {
            return seenRight ? well.f - well.e : well.e;
        }

        /** Of the first column of the doubts. */
        private long cofactorOf(int place) {
            int x = 4 * (place == 0 ? 1 : 0);
            int y = 4 * (place <= 1 ? 2 : 1);
            int z = 4 * (place <= 2 ? 3 : 2);
            long minor = doubts.at(x + 1) * (doubts.at(y + 2) * doubts.at(z + 3) - doubts.at(y + 3) * doubts.at(z + 2))
                    - doubts.at(x + 2) * (doubts.at(y + 1) * doubts.at(z + 3) - doubts.at(y + 3) * doubts.at(z + 1))
                    + doubts.at(x + 3) * (doubts.at(y + 1) * doubts.at(z + 2) - doubts.at(y + 2) * doubts.at(z + 1));
            return place % 2 == 0 ? minor : -minor;
        }
    }

    /** BEST ANSWER of a person to a WAY: acts are bettered, mood by mood, until none can be; look() comes first. */
    private static final class Answer {
        /** Each change betters the worths, and there are at most 27 ways to act. */
        private static final int MOST_CHANGES = 100;

        private final Well well;
        private final Chain chain = new Chain();
        private final Row plan = new Row(Well.MOST_MOODS);
        private int person = 0;
        private int way = 0;
        private int moods = 0;

        Answer(Well well) {
            this.well = well;
        }

        void look(int newPerson, int newWay) {
            person = newPerson;
            way = newWay;
            moods = Math.min(well.moodsOf(way), Well.MOST_MOODS);
            plan.setAll(0);
            reckon();
            for (int i = 0; i < MOST_CHANGES && isBettered(); i++) {
                reckon();
            }
        }

        private void reckon() {
            chain.clear();
            for (int mood = 0; mood < moods; mood++) {
                int act = plan.small(mood);
                chain.put(mood, well.nextOf(way, mood, act), bringsIn(mood, act), 0);
            }
            chain.reckon(well.p, well.q);
        }

        private int bringsIn(int mood, int act) {
            return well.bringsOwn(person, act, well.actOf(way, mood));
        }

        private int orderOf(int mood, int act) {
            return chain.orderOf(bringsIn(mood, act), well.nextOf(way, mood, act), 0, mood);
        }

        private boolean isBettered() {
            boolean bettered = false;
            for (int mood = 0; mood < moods; mood++) {
                for (int act = 0; act < well.acts; act++) {
                    if (orderOf(mood, act) > 0) {
                        plan.put(mood, act);
                        bettered = true;
                    }
                }
            }
            return bettered;
        }

        /** The least act by which the best worth is had in a mood. */
        int actIn(int mood) {
            for (int act = 0; act < well.acts; act++) {
                if (orderOf(mood, act) == 0) {
                    return act;
                }
            }
            return plan.small(mood);
        }

        void tellWorth(int mood, Fraction into) {
            chain.tellWorth(mood, 0, into);
        }
    }

    /** What a single day can bring: LEAST, LOTS, ONCE, THE BODY, and MILD threats. */
    private static final class Day {
        private static final int MOST_THREAT_DAYS = 9;

        private final Well well;
        /** What a person's acts bring it against those of the other one, three by three. */
        private final Row game = new Row(9);
        private final Row weights = new Row(Well.MOST_ACTS);
        /** The best mix of acts that was found: what it brings at least; the lower number is 0 ahead of any. */
        private long mixUp = 0;
        private long mixDown = 0;
        int corners = 0;
        final Row cornersAcross = new Row(9);
        final Row cornersUp = new Row(9);
        /** What the days of a threat are worth, all times the same number. */
        private final Row threats = new Row(MOST_THREAT_DAYS + 1);

        Day(Well well) {
            this.well = well;
        }

        private int mostAgainst(int person, int others) {
            int most = well.bringsOwn(person, 0, others);
            for (int own = 1; own < well.acts; own++) {
                most = Math.max(most, well.bringsOwn(person, own, others));
            }
            return most;
        }

        int threatTo(int person) {
            int threat = 0;
            for (int others = 1; others < well.acts; others++) {
                if (mostAgainst(person, others) < mostAgainst(person, threat)) {
                    threat = others;
                }
            }
            return threat;
        }

        int leastOf(int person) {
            return mostAgainst(person, threatTo(person));
        }

        /** ONCE, as bits. */
        int steadyPairs() {
            int bits = 0;
            for (int actA = 0; actA < well.acts; actA++) {
                for (int actB = 0; actB < well.acts; actB++) {
                    if (well.bringsTo(0, actA, actB) >= mostAgainst(0, actB)
                            && well.bringsTo(1, actA, actB) >= mostAgainst(1, actA)) {
                        bits |= 1 << (3 * actA + actB);
                    }
                }
            }
            return bits;
        }

        /**
         * LEAST by LOTS. Some best mix makes as many acts of the other one bring the same as it has acts itself: so of
         * all mixes that do so the one counts that brings the most at least.
         */
        void tellLots(int person, Fraction into) {
            for (int cell = 0; cell < 9; cell++) {
                game.put(cell, well.bringsOwn(person, cell / 3, cell % 3));
            }
            mixDown = 0;
            for (int own = 0; own < well.acts; own++) {
                setWeights(own, 1, own, 0);
                tryMix();
                for (int also = own + 1; also < well.acts; also++) {
                    tryMixesOfTwo(own, also);
                }
            }
            if (well.acts == 3) {
                tryMixOfThree();
            }
            into.be(mixUp, mixDown);
        }

        private void setWeights(int own, long weight, int also, long alsoWeight) {
            weights.setAll(0);
            weights.add(own, weight);
            weights.add(also, alsoWeight);
        }

        private void tryMixesOfTwo(int own, int also) {
            for (int x = 0; x < well.acts; x++) {
                for (int y = x + 1; y < well.acts; y++) {
                    setWeights(own, game.at(3 * also + y) - game.at(3 * also + x),
                            also, game.at(3 * own + x) - game.at(3 * own + y));
                    tryMix();
                }
            }
        }

        /** The weights are sums of cofactors: by them all three acts of the other one bring the same. */
        private void tryMixOfThree() {
            for (int own = 0; own < 3; own++) {
                int x = 3 * ((own + 1) % 3);
                int y = 3 * ((own + 2) % 3);
                long weight = 0;
                for (int others = 0; others < 3; others++) {
                    int v = (others + 1) % 3;
                    int w = (others + 2) % 3;
                    weight += game.at(x + v) * game.at(y + w) - game.at(x + w) * game.at(y + v);
                }
                weights.put(own, weight);
            }
            tryMix();
        }

        /** Weights of both signs, or none at all, are no mix. */
        private void tryMix() {
            long sum = weights.at(0) + weights.at(1) + weights.at(2);
            int sign = sum < 0 ? -1 : 1;
            if (sum == 0 || sign * weights.at(0) < 0 || sign * weights.at(1) < 0 || sign * weights.at(2) < 0) {
                return;
            }
            long down = sign * sum;
            long up = sign * mixBrings(0);
            for (int others = 1; others < well.acts; others++) {
                up = Math.min(up, sign * mixBrings(others));
            }
            if (mixDown == 0 || up * mixDown > mixUp * down) {
                mixUp = up;
                mixDown = down;
            }
        }

        private long mixBrings(int others) {
            long sum = 0;
            for (int own = 0; own < well.acts; own++) {
                sum += weights.at(own) * game.at(3 * own + others);
            }
            return sum;
        }

        /** Goes round THE BODY: from each corner to the point that has all others on its left, the farthest of these. */
        void findCorners() {
            int start = firstCorner();
            int at = start;
            corners = 0;
            do {
                cornersAcross.put(corners, across(at));
                cornersUp.put(corners, up(at));
                corners++;
                at = cornerAfter(at);
            } while (corners < 9 && !(across(at) == across(start) && up(at) == up(start)));
        }

        /** Points are pairs of acts. */
        private int across(int point) {
            return well.bringsTo(0, point / 3, point % 3);
        }

        private int up(int point) {
            return well.bringsTo(1, point / 3, point % 3);
        }

        private boolean isPoint(int point) {
            return point / 3 < well.acts && point % 3 < well.acts;
        }

        private int firstCorner() {
            int least = 0;
            for (int point = 1; point < 9; point++) {
                if (isPoint(point) && (across(point) < across(least)
                        || across(point) == across(least) && up(point) < up(least))) {
                    least = point;
                }
            }
            return least;
        }

        private int cornerAfter(int at) {
            int next = at;
            for (int point = 0; point < 9; point++) {
                if (isPoint(point) && isFurtherRight(at, next, point)) {
                    next = point;
                }
            }
            return next;
        }

        private boolean isFurtherRight(int at, int next, int point) {
            int nextAcross = across(next) - across(at);
            int nextUp = up(next) - up(at);
            int pointAcross = across(point) - across(at);
            int pointUp = up(point) - up(at);
            int turn = nextAcross * pointUp - nextUp * pointAcross;
            int farther = pointAcross * pointAcross + pointUp * pointUp - nextAcross * nextAcross - nextUp * nextUp;
            return turn < 0 || turn == 0 && farther > 0;
        }

        /** Whether THE BODY has a point; findCorners() comes first. */
        boolean bodyHas(int x, int y, int d) {
            for (int i = 0; i < corners && i < 9; i++) {
                int next = i + 1 < corners ? i + 1 : 0;
                long sideAcross = cornersAcross.at(next) - cornersAcross.at(i);
                long sideUp = cornersUp.at(next) - cornersUp.at(i);
                long pointAcross = x - cornersAcross.at(i) * d;
                long pointUp = y - cornersUp.at(i) * d;
                if (sideAcross * pointUp - sideUp * pointAcross < 0) {
                    return false;
                }
            }
            return corners > 2 || isBetweenEnds(x, y, d);
        }

        /** For a point or a side: what lies in its line need not lie between its ends. */
        private boolean isBetweenEnds(int x, int y, int d) {
            int last = corners - 1;
            long top = Math.max(cornersUp.at(0), cornersUp.at(last));
            long bottom = Math.min(cornersUp.at(0), cornersUp.at(last));
            return x >= cornersAcross.at(0) * d && x <= cornersAcross.at(last) * d && y >= bottom * d && y <= top * d;
        }

        boolean mustBeKept(int x, int y, int d) {
            return x > leastOf(0) * d && y > leastOf(1) * d;
        }

        /** MILD, or NONE. */
        int fewestThreatDays(int keepA, int keepB, int threatA, int threatB) {
            for (int days = 0; days <= MOST_THREAT_DAYS; days++) {
                if (isThreatEnough(0, keepA, keepB, threatA, threatB, days)
                        && isThreatEnough(1, keepB, keepA, threatB, threatA, days)) {
                    return days;
                }
            }
            return NONE;
        }

        /** All worths are told times (Q - P) and a power of Q that takes the quotient of ten days. */
        private boolean isThreatEnough(int person, int keep, int othersKeep, int threat, int othersThreat, int days) {
            long scale = well.q - well.p;
            for (int i = 0; i <= MOST_THREAT_DAYS; i++) {
                scale *= well.q;
            }
            long lasting = well.q - well.p <= 0 ? 0 : scale / (well.q - well.p) * well.q;
            threats.put(0, lasting * well.bringsOwn(person, keep, othersKeep));
            for (int left = 1; left <= days; left++) {
                threats.put(left, scale * well.bringsOwn(person, threat, othersThreat) + laterWorth(left - 1));
            }
            long after = laterWorth(days);
            boolean gains = threats.at(0) < after + scale * mostOtherwise(person, keep, othersKeep);
            for (int left = 1; left <= days; left++) {
                gains = gains || threats.at(left) < after + scale * mostOtherwise(person, threat, othersThreat);
            }
            return !gains;
        }

        private long laterWorth(int left) {
            return well.q == 0 ? 0 : threats.at(left) / well.q * well.p;
        }

        /** The most that another act than the one told brings on the day it is done. */
        private int mostOtherwise(int person, int own, int others) {
            int most = well.bringsOwn(person, own == 0 ? 1 : 0, others);
            for (int act = 0; act < well.acts; act++) {
                most = act == own ? most : Math.max(most, well.bringsOwn(person, act, others));
            }
            return most;
        }
    }

    /** Days that are lived one after the other. */
    private static final class Walk {
        private final Well well;
        private int a = 0;
        private int b = 0;
        private int moodA = 0;
        private int moodB = 0;
        private int seed = 0;

        Walk(Well well) {
            this.well = well;
        }

        private void start(int wayA, int wayB) {
            a = wayA;
            b = wayB;
            moodA = 0;
            moodB = 0;
        }

        private void goOn(int seenByA, int seenByB) {
            moodA = well.nextOf(a, moodA, seenByA);
            moodB = well.nextOf(b, moodB, seenByB);
        }

        /** JUDGED, or NONE. */
        int firstOtherwise(int wayA, int wayB) {
            start(wayA, wayB);
            for (int day = 0; day < well.days; day++) {
                int doneA = well.done.small(2 * day);
                int doneB = well.done.small(2 * day + 1);
                if (doneA != well.actOf(a, moodA)) {
                    return 2 * day;
                }
                if (doneB != well.actOf(b, moodB)) {
                    return 2 * day + 1;
                }
                goOn(doneB, doneA);
            }
            return NONE;
        }

        int broughtByRow(int person) {
            int sum = 0;
            for (int day = 0; day < well.days; day++) {
                sum += well.bringsTo(person, well.done.small(2 * day), well.done.small(2 * day + 1));
            }
            return sum;
        }

        /** DRAWN. */
        int draw(int wayA, int wayB, int days, int newSeed, int what) {
            start(wayA, wayB);
            seed = newSeed;
            int sum = 0;
            for (int day = 0; day < days; day++) {
                int actA = well.actOf(a, moodA);
                int actB = well.actOf(b, moodB);
                sum += what < 2 ? well.bringsTo(what, actA, actB) : 0;
                int seenByA = see(actB);
                int seenByB = see(actA);
                goOn(seenByA, seenByB);
            }
            return what < 2 ? sum : what == 2 ? moodA : moodB;
        }

        private int see(int act) {
            if (well.e == 0 || well.f <= 0) {
                return act;
            }
            seed = 1103515245 * seed + 12345;
            return ((seed >>> 16) & 32767) % well.f < well.e ? 1 - act : act;
        }

        /** MEET. */
        int gotInRounds(int wayA, int wayB) {
            start(wayA, wayB);
            int sum = 0;
            for (int round = 0; round < well.rounds; round++) {
                int actA = well.actOf(a, moodA);
                int actB = well.actOf(b, moodB);
                sum += well.bringsTo(0, actA, actB) + 99;
                goOn(actB, actA);
            }
            return sum;
        }
    }

    /** THE FIELD and those in it. */
    private static final class Crowd {
        private static final int DEALT_AT_ONCE = 1024;

        private final Well well;
        private final Walk walk;
        /** 1 for each way that is told and not barred. */
        private final Row there = new Row(Well.MOST_WAYS);
        private final Row meets = new Row(Well.MOST_WAYS * Well.MOST_WAYS);
        /** Of each way: its number times FIT; what is left of its part; its beings of the next step. */
        private final Row shares = new Row(Well.MOST_WAYS);
        private final Row rests = new Row(Well.MOST_WAYS);
        private final Row later = new Row(Well.MOST_WAYS);

        Crowd(Well well, Walk walk) {
            this.well = well;
            this.walk = walk;
        }

        private void seeWhoIsThere() {
            for (int way = 0; way < Well.MOST_WAYS; way++) {
                there.put(way, way < well.ways && !well.isBarred(way) ? 1 : 0);
            }
        }

        private boolean isThere(int way) {
            return there.at(way) == 1;
        }

        private void meetAll() {
            for (int way = 0; way < Well.MOST_WAYS; way++) {
                for (int other = 0; other < Well.MOST_WAYS; other++) {
                    boolean bothThere = isThere(way) && isThere(other);
                    meets.put(8 * way + other, bothThere ? walk.gotInRounds(way, other) : 0);
                }
            }
        }

        /** STAYS. */
        boolean keepsOthersOut(int way) {
            seeWhoIsThere();
            for (int other = 0; other < Well.MOST_WAYS; other++) {
                if (other != way && isThere(other) && !keepsOut(way, other)) {
                    return false;
                }
            }
            return true;
        }

        private boolean keepsOut(int way, int other) {
            int own = walk.gotInRounds(way, way);
            int others = walk.gotInRounds(other, way);
            return own > others
                    || own == others && walk.gotInRounds(way, other) > walk.gotInRounds(other, other);
        }

        /** How many steps changed something. */
        int growSteps(int steps) {
            seeWhoIsThere();
            meetAll();
            int changes = 0;
            for (int i = 0; i < steps; i++) {
                changes += growOneStep() ? 1 : 0;
            }
            return changes;
        }

        private boolean growOneStep() {
            long beings = 0;
            long sum = 0;
            for (int way = 0; way < Well.MOST_WAYS; way++) {
                long share = isThere(way) ? well.beings.at(way) * fitOf(way) : 0;
                shares.put(way, share);
                sum += share;
                beings += isThere(way) ? well.beings.at(way) : 0;
            }
            if (sum <= 0) {
                return false;
            }
            long left = beings;
            for (int way = 0; way < Well.MOST_WAYS; way++) {
                findPart(way, beings, sum);
                left -= later.at(way);
            }
            for (int i = 0; i < Well.MOST_WAYS && i < left; i++) {
                giveToGreatestRest();
            }
            return takeLater();
        }

        /**
         * All beings times a share need not fit a long (field() again and again brings some 500000 beings, and these
         * shares of some 10^15): so they are dealt in two goes, as in a long division by hand.
         */
        private void findPart(int way, long beings, long sum) {
            if (sum <= 0) {
                return;
            }
            long share = shares.at(way);
            long high = beings / DEALT_AT_ONCE * share;
            long low = high % sum * DEALT_AT_ONCE + beings % DEALT_AT_ONCE * share;
            later.put(way, high / sum * DEALT_AT_ONCE + low / sum);
            rests.put(way, low % sum);
        }

        private long fitOf(int way) {
            long sum = 0;
            for (int other = 0; other < Well.MOST_WAYS; other++) {
                sum += meets.at(8 * way + other) * well.beings.at(other);
            }
            return sum;
        }

        private void giveToGreatestRest() {
            int greatest = 0;
            for (int way = 1; way < Well.MOST_WAYS; way++) {
                if (rests.at(way) > rests.at(greatest)) {
                    greatest = way;
                }
            }
            later.add(greatest, 1);
            rests.put(greatest, NONE);
        }

        private boolean takeLater() {
            boolean changed = false;
            for (int way = 0; way < Well.MOST_WAYS; way++) {
                if (isThere(way)) {
                    changed = changed || later.at(way) != well.beings.at(way);
                    well.beings.put(way, later.at(way));
                }
            }
            return changed;
        }
    }

    /** A VILLAGE whose bridge each might leave to the others. */
    private static final class Bridge {
        private final Well well;
        private final Fraction edge = new Fraction();

        Bridge(Well well) {
            this.well = well;
        }

        /** EDGE of one in a village of so many. */
        void tellEdge(int who, int many, Fraction into) {
            long up = well.costs.at(who) - well.gains.at(who);
            long down = (many - 1) * well.gains.at(who);
            if (up <= 0) {
                into.be(0, 1);
            } else if (up >= down) {
                into.be(1, 1);
            } else {
                into.be(up, down);
            }
        }

        /** WEAK, or NONE. */
        int weakest() {
            int weak = NONE;
            long up = 0;
            long down = 1;
            for (int who = 0; who < well.villagers; who++) {
                tellEdge(who, well.villagers, edge);
                if (weak == NONE || edge.up * down > up * edge.down) {
                    weak = who;
                    up = edge.up;
                    down = edge.down;
                }
            }
            return weak;
        }

        /** HELD by all but those whose bits are told; P / Q is below 1, so an EDGE of 1 is never reached. */
        boolean isHeldWithout(int bits) {
            int many = well.villagers - Integer.bitCount(bits);
            for (int who = 0; who < well.villagers; who++) {
                if ((bits >> who & 1) == 0) {
                    tellEdge(who, many, edge);
                    if (well.p * edge.down < edge.up * well.q) {
                        return false;
                    }
                }
            }
            return true;
        }

        /** FEW, as bits. */
        int fewestOut() {
            int everyone = (1 << well.villagers) - 1;
            int few = everyone;
            for (int bits = everyone; bits >= 0; bits--) {
                if (Integer.bitCount(bits) <= Integer.bitCount(few) && isHeldWithout(bits)) {
                    few = bits;
                }
            }
            return few;
        }
    }
}
