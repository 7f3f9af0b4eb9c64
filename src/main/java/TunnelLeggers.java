/**
 * Leggers of a canal tunnel.
 *
 * <p>What each call does is told by the promises of the project's document; README.md says how to use it.
 */
public final class TunnelLeggers {
    private static final int NONE = -1;

    private static final int MAX_TAPE = 2000;
    private static final int FED = 20;
    private static final int MAX_TOKENS = 400;
    private static final int MAX_WORD = 10;
    private static final int MAX_DIGITS = 6;
    private static final int MAX_DEPTH = 8;

    private static final int MAX_BORES = 5;
    private static final int MAX_LONG = 12;
    private static final int MAX_PLACES = MAX_BORES * MAX_LONG;
    private static final int MAX_SHAFTS = 4;
    private static final int MAX_LEGGERS = 6;
    private static final int MAX_BOATS = 8;
    private static final int MAX_ORDERS = 16;

    private static final int MAX_MINUTES = 120;
    private static final int FARTHEST = 300;
    private static final int MAX_DUE_AGAIN = 9999;

    private static final int WEST = 0;
    private static final int EAST = 1;

    private static final int WAITING = 0;
    private static final int IN_TUNNEL = 1;
    private static final int OUT = 2;

    private static final int GOOD_AIR = 100;
    private static final int CLEAR_PLACES = 4;
    private static final int BREATH_TO_ENTER = 20;
    private static final int MINUTES_TO_WALK = 10;

    /** What count() and foresee() call the boats by how they are: this and how. */
    private static final int COUNT_BOATS = 8;
    private static final int COUNT_OUT = COUNT_BOATS + OUT;
    private static final int COUNT_AIR = 11;
    private static final int COUNT_CAPS = 12;

    private static final int TWICE = 2;
    private static final int UNKNOWN = 3;
    private static final int TOO_MANY = 4;
    private static final int OUT_OF_RANGE = 5;

    // The kinds of tokens. Those that a test is reckoned with are its operations too, and stand in the
    // order leaves, of one side, of two sides, so that two comparisons tell how many values one takes.
    private static final int END = 0;
    private static final int BAD = 1;
    private static final int NAME = 2;
    private static final int SIDE = 3;
    private static final int NUMBER = 4;
    private static final int MINUTE = 5;
    private static final int TURN = 6;
    private static final int WAITS = 7;
    private static final int BREATH = 8;
    private static final int PLACE = 9;
    private static final int INSIDE = 10;
    private static final int CAPPED = 11;
    private static final int LAST_LEAF = CAPPED;
    private static final int AIR = 12;
    private static final int NOT = 13;
    private static final int NEGATE = 14;
    private static final int LAST_OF_ONE_SIDE = NEGATE;
    private static final int PLUS = 15;
    private static final int MINUS = 16;
    private static final int TIMES = 17;
    private static final int OVER = 18;
    private static final int LESS = 19;
    private static final int MORE = 20;
    private static final int EQUAL = 21;
    private static final int AT_MOST = 22;
    private static final int AT_LEAST = 23;
    private static final int AND = 24;
    private static final int OR = 25;
    private static final int MIN = 26;
    private static final int MAX = 27;
    private static final int OPEN = 28;
    private static final int CLOSE = 29;
    private static final int OPEN_TEST = 30;
    private static final int CLOSE_TEST = 31;
    private static final int SEMICOLON = 32;
    private static final int COMMA = 33;
    private static final int BORE = 34;
    private static final int LONG = 35;
    private static final int LOW = 36;
    private static final int SHAFT = 37;
    private static final int AT = 38;
    private static final int DRAUGHT = 39;
    private static final int LEGGER = 40;
    private static final int STRENGTH = 41;
    private static final int LUNGS = 42;
    private static final int BOAT = 43;
    private static final int WEIGHT = 44;
    private static final int FROM = 45;
    private static final int DUE = 46;
    private static final int BY = 47;
    private static final int WHISTLE = 48;
    private static final int REST = 49;
    private static final int WHEN = 50;

    private static final int[] BORE_LINE = {BORE, NAME, LONG, NUMBER, LOW, NUMBER};
    private static final int[] SHAFT_LINE = {SHAFT, NAME, AT, NUMBER, DRAUGHT, NUMBER};
    private static final int[] LEGGER_LINE = {LEGGER, NAME, STRENGTH, NUMBER, LUNGS, NUMBER};
    private static final int[] BOAT_LINE = {
        BOAT, NAME, WEIGHT, NUMBER, FROM, SIDE, DUE, NUMBER, BY, NAME, AND, NAME
    };
    private static final int[] WHISTLE_HEAD = {WHISTLE, SIDE, WHEN};
    private static final int[] REST_HEAD = {REST, NAME, WHEN};

    private final byte[] tape = new byte[MAX_TAPE];
    private int length = 0;
    private int latestErrorAt = NONE;
    private final Reader reader = new Reader();
    private Plan sparePlan = new Plan();
    private final Tunnel now = new Tunnel(new Plan());
    /** A second tunnel, in which minutes go by that are only foreseen. */
    private final Tunnel ahead = new Tunnel(new Plan());

    public TunnelLeggers() {
    }

    // ---- the language

    public int feed(int a, int b, int c, int d, int e) throws IllegalStateException {
        if (length + FED > MAX_TAPE) {
            throw new IllegalStateException("the tape is full");
        }
        append(a);
        append(b);
        append(c);
        append(d);
        append(e);
        return length;
    }

    private void append(int word) {
        for (int shift = 24; shift >= 0; shift -= 8) {
            if (length >= 0 && length < tape.length) {
                tape[length] = (byte) (word >>> shift);
                length++;
            }
        }
    }

    public int trim(int n) throws IllegalArgumentException {
        if (n < 0 || n > length) {
            throw new IllegalArgumentException("the tape has not so many bytes");
        }
        length = n;
        return n;
    }

    public int teach() {
        int error = reader.read(tape, length, sparePlan);
        latestErrorAt = reader.faultAt;
        length = 0;
        if (error == 0) {
            Plan old = now.plan;
            now.begin(sparePlan);
            sparePlan = old;
        }
        return error;
    }

    public int errorAt() {
        return latestErrorAt;
    }

    public int count(int what) throws IndexOutOfBoundsException {
        switch (what) {
            case 0:
                return now.minute;
            case 1:
                return now.turn;
            case 2:
                return now.plan.bores;
            case 3:
                return now.plan.places;
            case 4:
                return now.plan.shafts;
            case 5:
                return now.plan.leggers;
            case 6:
                return now.plan.boats;
            case 7:
                return now.plan.orders.told;
            case 8:
            case 9:
            case 10:
            case COUNT_AIR:
            case COUNT_CAPS:
                return now.tally(what);
            case 13:
                return length;
            default:
                throw new IndexOutOfBoundsException("there is no such count");
        }
    }

    // ---- what there is

    public int place(int place, int what) throws IndexOutOfBoundsException {
        needOneOf(place, now.plan.places);
        switch (what) {
            case 0:
                return at(now.plan.boreOf, place);
            case 1:
                return at(now.air, place);
            case 2:
                return now.capsAt(place);
            case 3:
                return now.boatAt(place);
            default:
                throw new IndexOutOfBoundsException("a place does not tell this");
        }
    }

    public int bore(int bore, int what) throws IndexOutOfBoundsException {
        needOneOf(bore, now.plan.bores);
        switch (what) {
            case 0:
                return at(now.plan.boreLong, bore);
            case 1:
                return at(now.plan.boreLow, bore);
            case 2:
                return at(now.plan.boreFirst, bore);
            case 3:
                return now.airOfBore(bore);
            default:
                throw new IndexOutOfBoundsException("a bore does not tell this");
        }
    }

    public int legger(int legger, int what) throws IndexOutOfBoundsException {
        needOneOf(legger, now.plan.leggers);
        switch (what) {
            case 0:
                return at(now.plan.strength, legger);
            case 1:
                return at(now.plan.lungs, legger);
            case 2:
                return at(now.breath, legger);
            case 3:
                return at(now.capPlace, legger) == NONE ? 1 : 0;
            case 4:
                return now.boatOf(legger);
            case 5:
                return at(now.walk, legger);
            case 6:
                return at(now.capPlace, legger);
            default:
                throw new IndexOutOfBoundsException("a legger does not tell this");
        }
    }

    public int boat(int boat, int what) throws IndexOutOfBoundsException {
        needOneOf(boat, now.plan.boats);
        switch (what) {
            case 0:
                return at(now.plan.weight, boat);
            case 1:
                return at(now.side, boat);
            case 2:
                return at(now.due, boat);
            case 3:
                return at(now.how, boat);
            case 4:
                return at(now.spot, boat);
            case 5:
                return at(now.pushed, boat);
            case 6:
                return at(now.outMinute, boat);
            default:
                throw new IndexOutOfBoundsException("a boat does not tell this");
        }
    }

    public int crew(int boat, int place) throws IndexOutOfBoundsException {
        needOneOf(boat, now.plan.boats);
        needOneOf(place, 2);
        return place == 0 ? at(now.plan.firstLegger, boat) : at(now.plan.secondLegger, boat);
    }

    public boolean canEnter(int boat) throws IndexOutOfBoundsException {
        needOneOf(boat, now.plan.boats);
        return now.goesIn(boat);
    }

    public int worst() {
        int found = NONE;
        for (int p = 0; p < now.plan.places; p++) {
            if (found == NONE || at(now.air, p) < at(now.air, found)) {
                found = p;
            }
        }
        return found;
    }

    // ---- by hand

    public int whistle(int turn) throws IllegalArgumentException {
        if (turn != WEST && turn != EAST) {
            throw new IllegalArgumentException("a turn is that of west or of east");
        }
        int before = now.turn;
        now.turn = turn;
        return before;
    }

    public int air() {
        int better = 0;
        for (int p = 0; p < now.plan.places; p++) {
            better += GOOD_AIR - at(now.air, p);
            put(now.air, p, GOOD_AIR);
        }
        return better;
    }

    public int cap(int legger) throws IndexOutOfBoundsException {
        needOneOf(legger, now.plan.leggers);
        int lay = at(now.capPlace, legger);
        put(now.capPlace, legger, NONE);
        return lay;
    }

    public int again(int boat, int due)
            throws IndexOutOfBoundsException, IllegalArgumentException, IllegalStateException {
        needOneOf(boat, now.plan.boats);
        if (due < 0 || due > MAX_DUE_AGAIN) {
            throw new IllegalArgumentException("a due is 0 to 9999");
        }
        if (at(now.how, boat) != OUT) {
            throw new IllegalStateException("the boat is not out");
        }
        now.sendBack(boat, due);
        return at(now.side, boat);
    }

    // ---- minutes

    public int pass(int minutes) throws IllegalArgumentException {
        needMinutes(minutes);
        int before = now.tally(COUNT_OUT);
        now.run(minutes);
        return now.tally(COUNT_OUT) - before;
    }

    // ---- what would be

    public int until(int boat) throws IndexOutOfBoundsException {
        needOneOf(boat, now.plan.boats);
        ahead.copyFrom(now);
        for (int minutes = 0; minutes <= FARTHEST; minutes++) {
            if (at(ahead.how, boat) == OUT) {
                return minutes;
            }
            ahead.run(1);
        }
        return NONE;
    }

    public int foresee(int minutes, int what) throws IllegalArgumentException, IndexOutOfBoundsException {
        needMinutes(minutes);
        if (what < COUNT_BOATS || what > COUNT_CAPS) {
            throw new IndexOutOfBoundsException("this is not foreseen");
        }
        ahead.copyFrom(now);
        ahead.run(minutes);
        return ahead.tally(what);
    }

    public int advise(int minutes) throws IllegalArgumentException {
        needMinutes(minutes);
        int found = WEST;
        int most = NONE;
        for (int turn = WEST; turn <= EAST; turn++) {
            ahead.copyFrom(now);
            ahead.turn = turn;
            ahead.run(minutes);
            int out = ahead.tally(COUNT_OUT);
            if (out > most) {
                found = turn;
                most = out;
            }
        }
        return found;
    }

    public int missed(int minutes) throws IllegalArgumentException {
        needMinutes(minutes);
        int found = NONE;
        int fewest = 0;
        for (int l = 0; l < now.plan.leggers; l++) {
            ahead.copyFrom(now);
            ahead.idle = l;
            ahead.run(minutes);
            int out = ahead.tally(COUNT_OUT);
            if (found == NONE || out < fewest) {
                found = l;
                fewest = out;
            }
        }
        return found;
    }

    public double mean() {
        int leggers = now.plan.leggers;
        if (leggers <= 0) {
            return 0;
        }
        int all = 0;
        for (int l = 0; l < leggers; l++) {
            all += at(now.breath, l);
        }
        return (double) all / leggers;
    }

    public long digest() {
        long d = 857;
        for (int what = 0; what <= 13; what++) {
            d = d * 31 + count(what);
        }
        for (int p = 0; p < now.plan.places; p++) {
            for (int what = 0; what <= 3; what++) {
                d = d * 31 + place(p, what);
            }
        }
        for (int b = 0; b < now.plan.bores; b++) {
            for (int what = 0; what <= 3; what++) {
                d = d * 31 + bore(b, what);
            }
        }
        for (int l = 0; l < now.plan.leggers; l++) {
            for (int what = 0; what <= 6; what++) {
                d = d * 31 + legger(l, what);
            }
        }
        for (int b = 0; b < now.plan.boats; b++) {
            for (int what = 0; what <= 6; what++) {
                d = d * 31 + boat(b, what);
            }
            d = d * 31 + crew(b, 0);
            d = d * 31 + crew(b, 1);
        }
        return d;
    }

    private static void needOneOf(int index, int size) throws IndexOutOfBoundsException {
        if (index < 0 || index >= size) {
            throw new IndexOutOfBoundsException("there is no such one");
        }
    }

    private static void needMinutes(int minutes) throws IllegalArgumentException {
        if (minutes < 1 || minutes > MAX_MINUTES) {
            throw new IllegalArgumentException("the minutes are 1 to 120");
        }
    }

    // An index that is not tested in the very loop that uses it goes through these: none can ever be wrong.

    private static int at(int[] row, int index) {
        return index >= 0 && index < row.length ? row[index] : 0;
    }

    private static void put(int[] row, int index, int x) {
        if (index >= 0 && index < row.length) {
            row[index] = x;
        }
    }

    private static long at(long[] row, int index) {
        return index >= 0 && index < row.length ? row[index] : 0;
    }

    private static void put(long[] row, int index, long x) {
        if (index >= 0 && index < row.length) {
            row[index] = x;
        }
    }

    private static void copy(int[] from, int[] to) {
        for (int i = 0; i < from.length && i < to.length; i++) {
            to[i] = from[i];
        }
    }

    /** What a list tells, but for how it goes on in the tunnel. */
    private static final class Plan {
        int bores = 0;
        int places = 0;
        int shafts = 0;
        int leggers = 0;
        int boats = 0;
        final int[] boreLong = new int[MAX_BORES];
        final int[] boreLow = new int[MAX_BORES];
        final int[] boreFirst = new int[MAX_BORES];
        final int[] boreOf = new int[MAX_PLACES];
        final int[] shaftAt = new int[MAX_SHAFTS];
        final int[] draught = new int[MAX_SHAFTS];
        final int[] strength = new int[MAX_LEGGERS];
        final int[] lungs = new int[MAX_LEGGERS];
        final int[] weight = new int[MAX_BOATS];
        final int[] side = new int[MAX_BOATS];
        final int[] due = new int[MAX_BOATS];
        final int[] firstLegger = new int[MAX_BOATS];
        final int[] secondLegger = new int[MAX_BOATS];
        final Orders orders = new Orders();

        void clear() {
            bores = 0;
            places = 0;
            shafts = 0;
            leggers = 0;
            boats = 0;
            orders.clear();
        }

        void addBore(int boreLength, int low) {
            put(boreLong, bores, boreLength);
            put(boreLow, bores, low);
            put(boreFirst, bores, places);
            for (int i = 0; i < boreLength && places < MAX_PLACES; i++) {
                put(boreOf, places, bores);
                places++;
            }
            bores++;
        }

        void addShaft(int place, int itsDraught) {
            put(shaftAt, shafts, place);
            put(draught, shafts, itsDraught);
            shafts++;
        }

        void addLegger(int itsStrength, int itsLungs) {
            put(strength, leggers, itsStrength);
            put(lungs, leggers, itsLungs);
            leggers++;
        }

        void addBoat(int itsWeight, int itsSide, int itsDue, int first, int second) {
            put(weight, boats, itsWeight);
            put(side, boats, itsSide);
            put(due, boats, itsDue);
            put(firstLegger, boats, first);
            put(secondLegger, boats, second);
            boats++;
        }

        boolean isCrew(int legger, int boat) {
            return at(firstLegger, boat) == legger || at(secondLegger, boat) == legger;
        }
    }

    /** The orders, and their tests: operations behind what they work on, all in one row. */
    private static final class Orders {
        int told = 0;
        /** WHISTLE or REST. */
        final int[] kind = new int[MAX_ORDERS];
        /** The turn of a whistle, or the legger of a rest. */
        final int[] whose = new int[MAX_ORDERS];
        final int[] begin = new int[MAX_ORDERS];
        final int[] behind = new int[MAX_ORDERS];
        int emitted = 0;
        final int[] operation = new int[MAX_TOKENS];
        final int[] operand = new int[MAX_TOKENS];

        void clear() {
            told = 0;
            emitted = 0;
        }

        void emit(int itsOperation, int itsOperand) {
            put(operation, emitted, itsOperation);
            put(operand, emitted, itsOperand);
            emitted++;
        }

        void add(int itsKind, int itsWhose, int itsBegin) {
            put(kind, told, itsKind);
            put(whose, told, itsWhose);
            put(begin, told, itsBegin);
            put(behind, told, emitted);
            told++;
        }
    }

    /** The tokens of a tape, up to its end, or to the first one that can be none of a list. */
    private static final class Tokens {
        private static final int MAX_KEYWORDS = 40;
        private static final int SIGNS_OF_WORDS = 37;

        private final long[] keyword = new long[MAX_KEYWORDS];
        private final int[] keywordKind = new int[MAX_KEYWORDS];
        private int keywords = 0;
        final int[] kind = new int[MAX_TOKENS + 1];
        final int[] start = new int[MAX_TOKENS + 1];
        /** The number, the side, or the word as a number of its own. */
        final long[] value = new long[MAX_TOKENS + 1];
        private byte[] bytes = new byte[0];
        private int length = 0;

        Tokens() {
            addKeyword("bore", BORE);
            addKeyword("long", LONG);
            addKeyword("low", LOW);
            addKeyword("shaft", SHAFT);
            addKeyword("at", AT);
            addKeyword("draught", DRAUGHT);
            addKeyword("legger", LEGGER);
            addKeyword("strength", STRENGTH);
            addKeyword("lungs", LUNGS);
            addKeyword("boat", BOAT);
            addKeyword("weight", WEIGHT);
            addKeyword("from", FROM);
            addKeyword("west", SIDE);
            addKeyword("east", SIDE);
            addKeyword("due", DUE);
            addKeyword("by", BY);
            addKeyword("and", AND);
            addKeyword("whistle", WHISTLE);
            addKeyword("rest", REST);
            addKeyword("when", WHEN);
            addKeyword("minute", MINUTE);
            addKeyword("turn", TURN);
            addKeyword("air", AIR);
            addKeyword("breath", BREATH);
            addKeyword("place", PLACE);
            addKeyword("waits", WAITS);
            addKeyword("inside", INSIDE);
            addKeyword("capped", CAPPED);
            addKeyword("not", NOT);
            addKeyword("or", OR);
            addKeyword("min", MIN);
            addKeyword("max", MAX);
        }

        private void addKeyword(String word, int itsKind) {
            long code = 0;
            for (int i = 0; i < word.length(); i++) {
                code = code * SIGNS_OF_WORDS + signOfWord(word.charAt(i));
            }
            put(keyword, keywords, code);
            put(keywordKind, keywords, itsKind);
            keywords++;
        }

        void read(byte[] tapeBytes, int tapeLength) {
            bytes = tapeBytes;
            length = tapeLength;
            int position = 0;
            boolean more = true;
            for (int token = 0; token <= MAX_TOKENS && more; token++) {
                position = behindBlanks(position);
                put(start, token, position);
                position = readOne(token, position);
                more = at(kind, token) != END && at(kind, token) != BAD;
            }
        }

        private int behindBlanks(int from) {
            for (int p = from; p < length; p++) {
                int c = byteAt(p);
                if (c != ' ' && c != '\n') {
                    return p;
                }
            }
            return length;
        }

        /** Returns the position behind the token. */
        private int readOne(int token, int from) {
            int c = byteAt(from);
            if (c == NONE) {
                return found(token, END, 0, from);
            }
            if (token >= MAX_TOKENS) {
                return found(token, BAD, 0, from);
            }
            if (isLetter(c)) {
                return readWord(token, from);
            }
            return isDigit(c) ? readNumber(token, from) : readSymbol(token, from);
        }

        private int readWord(int token, int from) {
            long code = 0;
            int p = from;
            for (; p < length && signOfWord(byteAt(p)) > 0; p++) {
                code = code * SIGNS_OF_WORDS + signOfWord(byteAt(p));
            }
            if (p - from > MAX_WORD) {
                return found(token, BAD, 0, from);
            }
            int itsKind = kindOfWord(code);
            if (itsKind == SIDE) {
                code = byteAt(from) == 'w' ? WEST : EAST;
            }
            return found(token, itsKind, code, p);
        }

        private int kindOfWord(long code) {
            for (int i = 0; i < keywords; i++) {
                if (at(keyword, i) == code) {
                    return at(keywordKind, i);
                }
            }
            return NAME;
        }

        private int readNumber(int token, int from) {
            long number = 0;
            int p = from;
            for (; p < length && isDigit(byteAt(p)); p++) {
                number = number * 10 + (byteAt(p) - '0');
            }
            return p - from > MAX_DIGITS ? found(token, BAD, 0, from) : found(token, NUMBER, number, p);
        }

        private int readSymbol(int token, int from) {
            int c = byteAt(from);
            if (byteAt(from + 1) == '=' && (c == '<' || c == '>')) {
                return found(token, c == '<' ? AT_MOST : AT_LEAST, 0, from + 2);
            }
            return found(token, kindOfSymbol(c), 0, from + 1);
        }

        private int found(int token, int itsKind, long itsValue, int behind) {
            put(kind, token, itsKind);
            put(value, token, itsValue);
            return behind;
        }

        private static int kindOfSymbol(int c) {
            switch (c) {
                case '(':
                    return OPEN;
                case ')':
                    return CLOSE;
                case '[':
                    return OPEN_TEST;
                case ']':
                    return CLOSE_TEST;
                case ';':
                    return SEMICOLON;
                case ',':
                    return COMMA;
                case '+':
                    return PLUS;
                case '-':
                    return MINUS;
                case '*':
                    return TIMES;
                case '/':
                    return OVER;
                case '<':
                    return LESS;
                case '>':
                    return MORE;
                case '=':
                    return EQUAL;
                default:
                    return BAD;
            }
        }

        private int byteAt(int position) {
            if (position < 0 || position >= length || position >= bytes.length) {
                return NONE;
            }
            return bytes[position] & 255;
        }

        private static boolean isLetter(int c) {
            return c >= 'a' && c <= 'z';
        }

        private static boolean isDigit(int c) {
            return c >= '0' && c <= '9';
        }

        /** No sign is 0: then words of different lengths have different numbers too. */
        private static int signOfWord(int c) {
            if (isLetter(c)) {
                return 1 + c - 'a';
            }
            return isDigit(c) ? 27 + c - '0' : 0;
        }
    }

    /** Reads a tape as a list into a plan. */
    private static final class Reader {
        private final Tokens tokens = new Tokens();
        private final long[] boreNames = new long[MAX_BORES];
        private final long[] shaftNames = new long[MAX_SHAFTS];
        private final long[] leggerNames = new long[MAX_LEGGERS];
        private final long[] boatNames = new long[MAX_BOATS];
        private Plan plan = new Plan();
        private int next = 0;
        private int fault = 0;
        private int faultToken = NONE;
        /** The position of the error of the latest list; NONE if it had none. */
        int faultAt = NONE;

        /** Returns 0 or the error. */
        int read(byte[] tape, int length, Plan into) {
            tokens.read(tape, length);
            plan = into;
            plan.clear();
            next = 0;
            fault = 0;
            boolean fits = true;
            for (int i = 0; i <= MAX_TOKENS && fits && peek() != END; i++) {
                fits = line() && take(SEMICOLON);
            }
            if (!fits) {
                fault = 1;
                faultToken = next;
            }
            faultAt = fault == 0 ? NONE : at(tokens.start, faultToken);
            return fault;
        }

        private int peek() {
            return at(tokens.kind, next);
        }

        private boolean take(int kind) {
            if (at(tokens.kind, next) != kind) {
                return false;
            }
            next++;
            return true;
        }

        private boolean takeAll(int[] kinds) {
            for (int i = 0; i < kinds.length; i++) {
                if (!take(kinds[i])) {
                    return false;
                }
            }
            return true;
        }

        private int number(int token) {
            return (int) at(tokens.value, token);
        }

        // An error of 2 to 5 counts only if no error 1 follows: so the reading goes on behind it.
        // From then on nothing more is added to the plan, which is not used any more.

        private void tellFault(int error, int token) {
            if (fault == 0) {
                fault = error;
                faultToken = token;
            }
        }

        private void needNew(long[] names, int told, int token) {
            if (indexOf(names, told, at(tokens.value, token)) != NONE) {
                tellFault(TWICE, token);
            }
            if (told >= names.length) {
                tellFault(TOO_MANY, token);
            }
        }

        private int needKnown(long[] names, int told, int token) {
            int index = indexOf(names, told, at(tokens.value, token));
            if (index == NONE) {
                tellFault(UNKNOWN, token);
            }
            return index;
        }

        private static int indexOf(long[] names, int told, long name) {
            for (int i = 0; i < told && i < names.length; i++) {
                if (names[i] == name) {
                    return i;
                }
            }
            return NONE;
        }

        private void needRange(int token, int least, int most) {
            int number = number(token);
            if (number < least || number > most) {
                tellFault(OUT_OF_RANGE, token);
            }
        }

        private boolean line() {
            switch (peek()) {
                case BORE:
                    return boreLine(next);
                case SHAFT:
                    return shaftLine(next);
                case LEGGER:
                    return leggerLine(next);
                case BOAT:
                    return boatLine(next);
                case WHISTLE:
                    return orderLine(WHISTLE, WHISTLE_HEAD);
                case REST:
                    return orderLine(REST, REST_HEAD);
                default:
                    return false;
            }
        }

        private boolean boreLine(int first) {
            if (!takeAll(BORE_LINE)) {
                return false;
            }
            needNew(boreNames, plan.bores, first + 1);
            needRange(first + 3, 1, MAX_LONG);
            needRange(first + 5, 0, 9);
            if (fault == 0) {
                put(boreNames, plan.bores, at(tokens.value, first + 1));
                plan.addBore(number(first + 3), number(first + 5));
            }
            return true;
        }

        private boolean shaftLine(int first) {
            if (!takeAll(SHAFT_LINE)) {
                return false;
            }
            needNew(shaftNames, plan.shafts, first + 1);
            needRange(first + 3, 0, plan.places - 1);
            needRange(first + 5, 1, 30);
            if (fault == 0) {
                put(shaftNames, plan.shafts, at(tokens.value, first + 1));
                plan.addShaft(number(first + 3), number(first + 5));
            }
            return true;
        }

        private boolean leggerLine(int first) {
            if (!takeAll(LEGGER_LINE)) {
                return false;
            }
            needNew(leggerNames, plan.leggers, first + 1);
            needRange(first + 3, 1, 9);
            needRange(first + 5, 1, 9);
            if (fault == 0) {
                put(leggerNames, plan.leggers, at(tokens.value, first + 1));
                plan.addLegger(number(first + 3), number(first + 5));
            }
            return true;
        }

        private boolean boatLine(int first) {
            if (!takeAll(BOAT_LINE)) {
                return false;
            }
            needNew(boatNames, plan.boats, first + 1);
            needRange(first + 3, 1, 60);
            needRange(first + 7, 0, 999);
            int legger = needKnown(leggerNames, plan.leggers, first + 9);
            int other = needKnown(leggerNames, plan.leggers, first + 11);
            if (other == legger) {
                tellFault(OUT_OF_RANGE, first + 11);
            }
            if (fault == 0) {
                put(boatNames, plan.boats, at(tokens.value, first + 1));
                plan.addBoat(number(first + 3), number(first + 5), number(first + 7), legger, other);
            }
            return true;
        }

        private boolean orderLine(int kind, int[] head) {
            int first = next;
            if (plan.orders.told >= MAX_ORDERS) {
                tellFault(TOO_MANY, first);
            }
            if (!takeAll(head)) {
                return false;
            }
            int whose = kind == WHISTLE
                ? number(first + 1)
                : needKnown(leggerNames, plan.leggers, first + 1);
            int begin = plan.orders.emitted;
            if (!test(0)) {
                return false;
            }
            if (fault == 0) {
                plan.orders.add(kind, whose, begin);
            }
            return true;
        }

        private boolean test(int depth) {
            boolean fits = both(depth);
            for (int i = 0; i < MAX_TOKENS && fits && take(OR); i++) {
                fits = both(depth) && emit(OR, 0);
            }
            return fits;
        }

        private boolean both(int depth) {
            boolean fits = single(depth);
            for (int i = 0; i < MAX_TOKENS && fits && take(AND); i++) {
                fits = single(depth) && emit(AND, 0);
            }
            return fits;
        }

        private boolean single(int depth) {
            switch (peek()) {
                case NOT:
                    return takeDeeper(NOT, depth) && single(depth + 1) && emit(NOT, 0);
                case OPEN_TEST:
                    return takeDeeper(OPEN_TEST, depth) && test(depth + 1) && take(CLOSE_TEST);
                case INSIDE:
                    return ofOne(INSIDE, boatNames, plan.boats);
                case CAPPED:
                    return ofOne(CAPPED, leggerNames, plan.leggers);
                default:
                    return comparison(depth);
            }
        }

        private boolean comparison(int depth) {
            if (!sum(depth)) {
                return false;
            }
            int kind = peek();
            if (kind < LESS || kind > AT_LEAST) {
                return false;
            }
            next++;
            return sum(depth) && emit(kind, 0);
        }

        private boolean sum(int depth) {
            boolean fits = product(depth);
            for (int i = 0; i < MAX_TOKENS && fits && (peek() == PLUS || peek() == MINUS); i++) {
                int kind = peek();
                next++;
                fits = product(depth) && emit(kind, 0);
            }
            return fits;
        }

        private boolean product(int depth) {
            boolean fits = value(depth);
            for (int i = 0; i < MAX_TOKENS && fits && (peek() == TIMES || peek() == OVER); i++) {
                int kind = peek();
                next++;
                fits = value(depth) && emit(kind, 0);
            }
            return fits;
        }

        private boolean value(int depth) {
            int kind = peek();
            switch (kind) {
                case NUMBER:
                    next++;
                    return emit(NUMBER, number(next - 1));
                case MINUTE:
                case TURN:
                    next++;
                    return emit(kind, 0);
                case WAITS:
                    next++;
                    return take(SIDE) && emit(WAITS, number(next - 1));
                case BREATH:
                    return ofOne(BREATH, leggerNames, plan.leggers);
                case PLACE:
                    return ofOne(PLACE, boatNames, plan.boats);
                case AIR:
                    next++;
                    return inBrackets(depth) && emit(AIR, 0);
                case MINUS:
                    return takeDeeper(MINUS, depth) && value(depth + 1) && emit(NEGATE, 0);
                case OPEN:
                    return inBrackets(depth);
                case MIN:
                case MAX:
                    next++;
                    return ofTwo(depth) && emit(kind, 0);
                default:
                    return false;
            }
        }

        private boolean inBrackets(int depth) {
            return takeDeeper(OPEN, depth) && sum(depth + 1) && take(CLOSE);
        }

        private boolean ofTwo(int depth) {
            return takeDeeper(OPEN, depth) && sum(depth + 1) && take(COMMA) && sum(depth + 1) && take(CLOSE);
        }

        private boolean takeDeeper(int kind, int depth) {
            return depth < MAX_DEPTH && take(kind);
        }

        private boolean ofOne(int kind, long[] names, int told) {
            next++;
            return take(NAME) && emit(kind, needKnown(names, told, next - 1));
        }

        /** Returns true, so that it can stand behind what had to fit. */
        private boolean emit(int operation, int operand) {
            plan.orders.emit(operation, operand);
            return true;
        }
    }

    /** A tunnel as it is in a minute, and how it is a minute later. */
    private static final class Tunnel {
        Plan plan;
        int minute = 0;
        int turn = WEST;
        /** The legger whose strength does not count for what a boat has pushed. */
        int idle = NONE;
        final int[] air = new int[MAX_PLACES];
        final int[] breath = new int[MAX_LEGGERS];
        final int[] walk = new int[MAX_LEGGERS];
        /** NONE for a legger who has the cap. */
        final int[] capPlace = new int[MAX_LEGGERS];
        final int[] side = new int[MAX_BOATS];
        final int[] due = new int[MAX_BOATS];
        final int[] how = new int[MAX_BOATS];
        final int[] spot = new int[MAX_BOATS];
        final int[] pushed = new int[MAX_BOATS];
        final int[] outMinute = new int[MAX_BOATS];
        private final int[] stack = new int[MAX_TOKENS];

        Tunnel(Plan itsPlan) {
            plan = itsPlan;
        }

        /** The minute stays. */
        void begin(Plan itsPlan) {
            plan = itsPlan;
            turn = WEST;
            for (int p = 0; p < plan.places; p++) {
                put(air, p, GOOD_AIR);
            }
            for (int l = 0; l < plan.leggers; l++) {
                put(breath, l, mostBreath(l));
                put(walk, l, 0);
                put(capPlace, l, NONE);
            }
            for (int b = 0; b < plan.boats; b++) {
                put(side, b, at(plan.side, b));
                putToWait(b, at(plan.due, b));
            }
        }

        void copyFrom(Tunnel other) {
            plan = other.plan;
            minute = other.minute;
            turn = other.turn;
            idle = other.idle;
            copy(other.air, air);
            copy(other.breath, breath);
            copy(other.walk, walk);
            copy(other.capPlace, capPlace);
            copy(other.side, side);
            copy(other.due, due);
            copy(other.how, how);
            copy(other.spot, spot);
            copy(other.pushed, pushed);
            copy(other.outMinute, outMinute);
        }

        private void putToWait(int boat, int itsDue) {
            put(due, boat, itsDue);
            put(how, boat, WAITING);
            put(spot, boat, NONE);
            put(pushed, boat, 0);
            put(outMinute, boat, NONE);
        }

        void sendBack(int boat, int itsDue) {
            put(side, boat, at(side, boat) == WEST ? EAST : WEST);
            putToWait(boat, itsDue);
        }

        private int mostBreath(int legger) {
            return 10 * at(plan.lungs, legger);
        }

        /** What count() tells as 8 to 12. */
        int tally(int what) {
            if (what == COUNT_AIR) {
                return airOf(0, plan.places);
            }
            return what == COUNT_CAPS ? capsThatLie() : boatsThatAre(what - COUNT_BOATS);
        }

        private int boatsThatAre(int itsHow) {
            int n = 0;
            for (int b = 0; b < plan.boats; b++) {
                n += at(how, b) == itsHow ? 1 : 0;
            }
            return n;
        }

        private int capsThatLie() {
            int n = 0;
            for (int l = 0; l < plan.leggers; l++) {
                n += at(capPlace, l) != NONE ? 1 : 0;
            }
            return n;
        }

        int airOfBore(int bore) {
            int first = at(plan.boreFirst, bore);
            return airOf(first, first + at(plan.boreLong, bore));
        }

        private int airOf(int first, int behind) {
            int all = 0;
            for (int p = first; p < behind; p++) {
                all += at(air, p);
            }
            return all;
        }

        int capsAt(int place) {
            int n = 0;
            for (int l = 0; l < plan.leggers; l++) {
                n += at(capPlace, l) == place ? 1 : 0;
            }
            return n;
        }

        int boatAt(int place) {
            for (int b = 0; b < plan.boats; b++) {
                if (at(how, b) == IN_TUNNEL && at(spot, b) == place) {
                    return b;
                }
            }
            return NONE;
        }

        int boatOf(int legger) {
            for (int b = 0; b < plan.boats; b++) {
                if (at(how, b) == IN_TUNNEL && plan.isCrew(legger, b)) {
                    return b;
                }
            }
            return NONE;
        }

        void run(int minutes) {
            for (int i = 0; i < minutes; i++) {
                chooseTurn();
                for (int b = 0; b < plan.boats; b++) {
                    if (goesIn(b)) {
                        enter(b);
                    }
                }
                for (int b = 0; b < plan.boats; b++) {
                    if (at(how, b) == IN_TUNNEL) {
                        push(b);
                    }
                }
                spoilAir();
                breathe();
                bringAir();
                walkBack();
                minute++;
            }
        }

        private void chooseTurn() {
            Orders orders = plan.orders;
            for (int o = 0; o < orders.told; o++) {
                if (at(orders.kind, o) == WHISTLE && holds(o)) {
                    turn = at(orders.whose, o);
                    return;
                }
            }
        }

        /** Whether a boat goes in by the turn as it is. */
        boolean goesIn(int boat) {
            return isDue(boat)
                && at(side, boat) == turn
                && plan.places > 0
                && isClear(turn)
                && isReady(at(plan.firstLegger, boat))
                && isReady(at(plan.secondLegger, boat))
                && !crewRests(boat);
        }

        private boolean isDue(int boat) {
            return at(how, boat) == WAITING && at(due, boat) <= minute;
        }

        private boolean isClear(int end) {
            for (int b = 0; b < plan.boats; b++) {
                if (at(how, b) == IN_TUNNEL) {
                    int place = at(spot, b);
                    int fromEnd = end == WEST ? place : plan.places - 1 - place;
                    if (at(side, b) != end || fromEnd < CLEAR_PLACES) {
                        return false;
                    }
                }
            }
            return true;
        }

        private boolean isReady(int legger) {
            return boatOf(legger) == NONE && at(walk, legger) == 0 && at(breath, legger) >= BREATH_TO_ENTER;
        }

        private boolean crewRests(int boat) {
            Orders orders = plan.orders;
            for (int o = 0; o < orders.told; o++) {
                if (at(orders.kind, o) == REST && plan.isCrew(at(orders.whose, o), boat) && holds(o)) {
                    return true;
                }
            }
            return false;
        }

        private void enter(int boat) {
            put(how, boat, IN_TUNNEL);
            put(pushed, boat, 0);
            comeTo(boat, at(side, boat) == WEST ? 0 : plan.places - 1);
        }

        private void comeTo(int boat, int place) {
            put(spot, boat, place);
            int low = at(plan.boreLow, at(plan.boreOf, place));
            passLow(at(plan.firstLegger, boat), place, low);
            passLow(at(plan.secondLegger, boat), place, low);
        }

        private void passLow(int legger, int place, int low) {
            boolean hasCap = at(capPlace, legger) == NONE || at(capPlace, legger) == place;
            if (hasCap) {
                put(capPlace, legger, low > 12 - at(plan.strength, legger) ? place : NONE);
            }
        }

        private void push(int boat) {
            int strength = strengthFor(at(plan.firstLegger, boat)) + strengthFor(at(plan.secondLegger, boat));
            int weight = at(plan.weight, boat);
            int last = at(side, boat) == WEST ? plan.places - 1 : 0;
            int step = at(side, boat) == WEST ? 1 : -1;
            put(pushed, boat, at(pushed, boat) + strength * at(air, at(spot, boat)) / GOOD_AIR);
            for (int i = 0; i <= MAX_PLACES && at(pushed, boat) >= weight; i++) {
                int place = at(spot, boat);
                if (place == last) {
                    leave(boat);
                    return;
                }
                if (boatAt(place + step) != NONE) {
                    put(pushed, boat, 0);
                } else {
                    put(pushed, boat, at(pushed, boat) - weight);
                    comeTo(boat, place + step);
                }
            }
        }

        private int strengthFor(int legger) {
            return legger == idle || at(breath, legger) < 1 ? 0 : at(plan.strength, legger);
        }

        private void leave(int boat) {
            put(how, boat, OUT);
            put(spot, boat, NONE);
            put(pushed, boat, 0);
            put(outMinute, boat, minute);
            put(walk, at(plan.firstLegger, boat), MINUTES_TO_WALK);
            put(walk, at(plan.secondLegger, boat), MINUTES_TO_WALK);
        }

        // No two boats are at one place: so all air can be spoilt before any legger breathes.

        private void spoilAir() {
            for (int b = 0; b < plan.boats; b++) {
                if (at(how, b) == IN_TUNNEL) {
                    put(air, at(spot, b), Math.max(0, at(air, at(spot, b)) - 6));
                }
            }
        }

        private void breathe() {
            for (int l = 0; l < plan.leggers; l++) {
                int boat = boatOf(l);
                int more = boat == NONE ? 2 : breathIn(at(air, at(spot, boat)));
                put(breath, l, Math.max(0, Math.min(mostBreath(l), at(breath, l) + more)));
            }
        }

        private static int breathIn(int itsAir) {
            return itsAir < 40 ? -(1 + (40 - itsAir) / 10) : 1;
        }

        private void bringAir() {
            for (int s = 0; s < plan.shafts; s++) {
                bringAirBy(at(plan.shaftAt, s), at(plan.draught, s));
            }
        }

        private void bringAirBy(int shaftPlace, int draught) {
            // No further than the draught is felt: this is the dearest loop of a minute.
            int reach = draught / 2;
            int first = Math.max(0, shaftPlace - reach);
            for (int p = first; p <= shaftPlace + reach && p < plan.places && p < air.length; p++) {
                air[p] = Math.min(GOOD_AIR, air[p] + draught - 2 * Math.abs(p - shaftPlace));
            }
        }

        private void walkBack() {
            for (int l = 0; l < plan.leggers; l++) {
                put(walk, l, Math.max(0, at(walk, l) - 1));
            }
        }

        private boolean holds(int order) {
            Orders orders = plan.orders;
            int behind = at(orders.behind, order);
            int top = -1;
            for (int i = at(orders.begin, order); i < behind; i++) {
                int operation = at(orders.operation, i);
                if (operation <= LAST_LEAF) {
                    top++;
                    put(stack, top, leaf(operation, at(orders.operand, i)));
                } else if (operation <= LAST_OF_ONE_SIDE) {
                    put(stack, top, ofOneSide(operation, at(stack, top)));
                } else {
                    top--;
                    put(stack, top, ofTwoSides(operation, at(stack, top), at(stack, top + 1)));
                }
            }
            return at(stack, 0) != 0;
        }

        private int leaf(int operation, int operand) {
            switch (operation) {
                case NUMBER:
                    return operand;
                case MINUTE:
                    return minute;
                case TURN:
                    return turn;
                case WAITS:
                    return waitingAt(operand);
                case BREATH:
                    return at(breath, operand);
                case PLACE:
                    return at(spot, operand);
                case INSIDE:
                    return at(how, operand) == IN_TUNNEL ? 1 : 0;
                case CAPPED:
                    return at(capPlace, operand) == NONE ? 1 : 0;
                default:
                    return 0;
            }
        }

        private int waitingAt(int end) {
            int n = 0;
            for (int b = 0; b < plan.boats; b++) {
                n += at(side, b) == end && at(how, b) == WAITING && at(due, b) <= minute ? 1 : 0;
            }
            return n;
        }

        private int ofOneSide(int operation, int x) {
            if (operation == AIR) {
                return x < plan.places ? at(air, x) : 0;
            }
            if (operation == NOT) {
                return x == 0 ? 1 : 0;
            }
            return -x;
        }

        private static int ofTwoSides(int operation, int x, int y) {
            switch (operation) {
                case PLUS:
                    return x + y;
                case MINUS:
                    return x - y;
                case TIMES:
                    return x * y;
                case OVER:
                    return quotient(x, y);
                case LESS:
                    return x < y ? 1 : 0;
                case MORE:
                    return x > y ? 1 : 0;
                case EQUAL:
                    return x == y ? 1 : 0;
                case AT_MOST:
                    return x <= y ? 1 : 0;
                case AT_LEAST:
                    return x >= y ? 1 : 0;
                case AND:
                    return x & y;
                case OR:
                    return x | y;
                case MIN:
                    return Math.min(x, y);
                case MAX:
                    return Math.max(x, y);
                default:
                    return 0;
            }
        }

        private static int quotient(int x, int y) {
            if (y == 0) {
                return 0;
            }
            return y == -1 ? -x : x / y;
        }
    }
}
