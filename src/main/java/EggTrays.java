import java.util.NoSuchElementException;

/** A long table at a hotel, told as a text and played second by second. */
public final class EggTrays {
    public static final int NONE = -1;

    private static final int MOST_STATIONS = 5;
    private static final int MOST_GUESTS = 9;
    private static final int MOST_ON_BUS = 6;
    private static final int MOST_AT_TABLE = 15;
    private static final int MOST_MAYS = 4;
    private static final int KINDS = 3;
    private static final int MOST_LAWS = 7;
    private static final int MOST_KNOTS = 64;
    private static final int MOST_OPEN = 8;
    private static final int MOST_BYTES = 800;
    private static final int FED_BYTES = 20;
    private static final int MOST_COUNTS = 40;
    private static final int MOST_UNDONE = 20;
    private static final int DAY = 3600;
    private static final int MOST_SECONDS_AT_ONCE = 900;
    private static final int MOST_PLACES = 4;
    private static final int MOST_SIZE = 20;
    private static final int MOST_PORTIONS = 60;
    private static final int MOST_FROM = 59;
    private static final int MOST_LAG = 900;
    private static final int MOST_TAKING = 240;
    private static final int MOST_WANTED = 9;
    private static final int MOST_SITTING = 1800;
    private static final int MOST_WEIGHT = 99;
    private static final int MOST_BOUND = 99999;
    private static final int MOST_COUNTED = 99;
    private static final int MOST_LATER = 600;
    private static final int DRAWS = 10;
    private static final int MOST_ROWS = 120;
    private static final int MOST_LETTERS = 6;
    private static final int MOST_NUMBER = 9999;
    private static final int HERE_WITHOUT_PAN = 999;
    private static final int NOT_SO_MANY = -2;

    // The words of the language; a word's number here is its token.
    private static final String WORDS = "station pan cold guest wants pass again close law may heap leave eats or and not want room here age line late size taken ";
    private static final int STATION = 0;
    private static final int PAN = 1;
    private static final int COLD = 2;
    private static final int GUEST = 3;
    private static final int WANTS = 4;
    private static final int PASS = 5;
    private static final int AGAIN = 6;
    private static final int CLOSE = 7;
    private static final int LAW = 8;
    private static final int MAY = 9;
    private static final int HEAP = 10;
    private static final int LEAVE = 11;
    private static final int EATS = 12;
    private static final int OR = 13;
    private static final int AND = 14;
    private static final int NOT = 15;
    private static final int WANT = 16;
    private static final int ROOM = 17;
    private static final int HERE = 18;
    private static final int AGE = 19;
    private static final int LINE = 20;
    private static final int LATE = 21;
    private static final int SIZE = 22;
    private static final int TAKEN = 23;
    private static final int NAMES = 8;

    private static final int KIND_HEAP = 0;
    private static final int KIND_LEAVE = LEAVE - HEAP;
    private static final int KIND_EATS = EATS - HEAP;

    // The other tokens.
    private static final int PLUS = 24;
    private static final int MINUS = 25;
    private static final int TIMES = 26;
    private static final int BY = 27;
    private static final int LESS = 28;
    private static final int LESS_EQUAL = 29;
    private static final int EQUAL = 30;
    private static final int UNEQUAL = 31;
    private static final int GREATER_EQUAL = 32;
    private static final int GREATER = 33;
    private static final int OPEN = 34;
    private static final int SHUT = 35;
    private static final int SEMICOLON = 36;
    private static final int NUMBER = 37;
    private static final int NAME = 38;
    private static final int END = 39;
    private static final int NO_TOKEN = 40;

    // How tightly the signs of an E bind; 0 is no sign between two values.
    private static final int RANK_OR = 1;
    private static final int RANK_AND = 2;
    private static final int RANK_NOT = 3;
    private static final int RANK_COMPARE = 4;
    private static final int RANK_SUM = 5;
    private static final int RANK_PRODUCT = 6;

    // A knot below this is a number, one from here on is this and a token.
    private static final int NO_NUMBER = 10000;

    private static final int CANNOT_STAND = 1;
    private static final int TOO_MUCH = 2;
    private static final int TOLD_ALREADY = 3;
    private static final int NOT_TOLD = 4;

    private static final int TO_COME = 0;
    private static final int IN_LINE = 1;
    private static final int SITS = 2;
    private static final int DONE = 3;

    private static final int PUT_DOWN = 0;
    private static final int CHANGED_OVER = 1;
    private static final int SENT_AWAY = 2;
    private static final int DEED_FIELDS = 3;

    private static final long MOST_VALUE = 1000000000000L;
    private static final long ERROR = Long.MIN_VALUE;

    /** What the text tells of a station; portions is 0 without a pan, cold is 0 for never. */
    private static final class Dish {
        int name;
        int seconds;
        int places;
        int portions;
        int lag;
        int from;
        int cold;

        void clear() {
            portions = 0;
            lag = 0;
            from = 0;
            cold = 0;
        }

        void copyFrom(Dish other) {
            name = other.name;
            seconds = other.seconds;
            places = other.places;
            portions = other.portions;
            lag = other.lag;
            from = other.from;
            cold = other.cold;
        }
    }

    /** What the text tells of a guest; comes is NONE for one who is left out of a run. */
    private static final class Caller {
        int name;
        int comes;
        int size;
        final int[] wants = new int[MOST_STATIONS];

        void clear() {
            for (int i = 0; i < MOST_STATIONS; i++) {
                wants[i] = 0;
            }
        }

        void copyFrom(Caller other) {
            name = other.name;
            comes = other.comes;
            size = other.size;
            System.arraycopy(other.wants, 0, wants, 0, MOST_STATIONS);
        }
    }

    /** All E of a text, each as knots with the signs behind their values. */
    private static final class Laws {
        final int[] knots = new int[MOST_KNOTS];
        final int[] starts = new int[MOST_LAWS];
        final int[] ends = new int[MOST_LAWS];
        int size;
        int laws;
        final long[] names = new long[NAMES];
        final long[] stack = new long[MOST_KNOTS];

        void clear() {
            size = 0;
            laws = 0;
        }

        void copyFrom(Laws other) {
            System.arraycopy(other.knots, 0, knots, 0, MOST_KNOTS);
            System.arraycopy(other.starts, 0, starts, 0, MOST_LAWS);
            System.arraycopy(other.ends, 0, ends, 0, MOST_LAWS);
            size = other.size;
            laws = other.laws;
        }

        void addKnot(int knot) {
            if (size < MOST_KNOTS) {
                knots[size] = knot;
                size++;
            }
        }

        /** The knots since start become a law: its number. */
        int addLaw(int start) {
            if (laws >= MOST_LAWS) {
                return NONE;
            }
            starts[laws] = start;
            ends[laws] = size;
            laws++;
            return laws - 1;
        }

        void setName(int name, long value) {
            if (name >= WANT && name <= TAKEN) {
                names[name - WANT] = value;
            }
        }

        /** ERROR stands for a law that isn't told too: every caller does the same with both. */
        long value(int which) {
            if (which < 0 || which >= laws) {
                return ERROR;
            }
            int top = 0;
            for (int i = starts[which]; i < ends[which] && i < MOST_KNOTS; i++) {
                int knot = knots[i];
                int token = knot - NO_NUMBER;
                if (top >= MOST_KNOTS) {
                    return ERROR;
                }
                if (knot < NO_NUMBER) {
                    stack[top] = knot;
                    top++;
                } else if (token >= WANT && token <= TAKEN) {
                    stack[top] = names[token - WANT];
                    top++;
                } else if (token == NOT && top > 0) {
                    stack[top - 1] = stack[top - 1] == 0 ? 1 : 0;
                } else if (top > 1) {
                    top--;
                    stack[top - 1] = combined(token, stack[top - 1], stack[top]);
                    if (stack[top - 1] == ERROR) {
                        return ERROR;
                    }
                }
            }
            return top == 1 ? stack[0] : ERROR;
        }

        private static long combined(int sign, long a, long b) {
            long result;
            switch (sign) {
                case OR:
                    return a != 0 || b != 0 ? 1 : 0;
                case AND:
                    return a != 0 && b != 0 ? 1 : 0;
                case LESS:
                    return a < b ? 1 : 0;
                case LESS_EQUAL:
                    return a <= b ? 1 : 0;
                case EQUAL:
                    return a == b ? 1 : 0;
                case UNEQUAL:
                    return a != b ? 1 : 0;
                case GREATER_EQUAL:
                    return a >= b ? 1 : 0;
                case GREATER:
                    return a > b ? 1 : 0;
                case PLUS:
                    result = a + b;
                    break;
                case MINUS:
                    result = a - b;
                    break;
                case TIMES:
                    // Two values within bounds may have a product beyond a long.
                    if (a != 0 && (b < 0 ? -b : b) > MOST_VALUE / (a < 0 ? -a : a)) {
                        return ERROR;
                    }
                    result = a * b;
                    break;
                case BY:
                    if (b == 0) {
                        return ERROR;
                    }
                    result = a / b;
                    break;
                default:
                    return ERROR;
            }
            return result > MOST_VALUE || result < -MOST_VALUE ? ERROR : result;
        }
    }

    /** A whole text; the callers behind its guests are room for a bus. */
    private static final class Plan {
        int stations;
        final Dish[] dishes = new Dish[MOST_STATIONS];
        int guests;
        final Caller[] callers = new Caller[MOST_AT_TABLE];
        boolean pass;
        int again;
        int close;
        int mays;
        final int[] mayNames = new int[MOST_MAYS];
        final int[] mayKinds = new int[MOST_MAYS];
        final int[] mayLaws = new int[MOST_MAYS];
        final int[] told = new int[KINDS];
        final Laws laws = new Laws();

        Plan() {
            for (int i = 0; i < MOST_STATIONS; i++) {
                dishes[i] = new Dish();
            }
            for (int i = 0; i < MOST_AT_TABLE; i++) {
                callers[i] = new Caller();
            }
        }

        void clear() {
            stations = 0;
            guests = 0;
            pass = false;
            again = 0;
            close = DAY;
            mays = 0;
            for (int i = 0; i < KINDS; i++) {
                told[i] = NONE;
            }
            laws.clear();
        }

        void copyFrom(Plan other) {
            stations = other.stations;
            for (int i = 0; i < stations && i < MOST_STATIONS; i++) {
                dishes[i].copyFrom(other.dishes[i]);
            }
            guests = other.guests;
            for (int i = 0; i < guests && i < MOST_AT_TABLE; i++) {
                callers[i].copyFrom(other.callers[i]);
            }
            pass = other.pass;
            again = other.again;
            close = other.close;
            mays = other.mays;
            System.arraycopy(other.mayNames, 0, mayNames, 0, MOST_MAYS);
            System.arraycopy(other.mayKinds, 0, mayKinds, 0, MOST_MAYS);
            System.arraycopy(other.mayLaws, 0, mayLaws, 0, MOST_MAYS);
            System.arraycopy(other.told, 0, told, 0, KINDS);
            laws.copyFrom(other.laws);
        }

        int stationOf(int letters) {
            for (int i = 0; i < stations && i < MOST_STATIONS; i++) {
                if (dishes[i].name == letters) {
                    return i;
                }
            }
            return NONE;
        }

        int guestOf(int letters) {
            for (int i = 0; i < guests && i < MOST_GUESTS; i++) {
                if (callers[i].name == letters) {
                    return i;
                }
            }
            return NONE;
        }

        int mayOf(int letters) {
            for (int i = 0; i < mays && i < MOST_MAYS; i++) {
                if (mayNames[i] == letters) {
                    return i;
                }
            }
            return NONE;
        }

        boolean hasStation(int station) {
            return station >= 0 && station < stations;
        }

        boolean hasGuest(int guest) {
            return guest >= 0 && guest < guests;
        }

        boolean hasPan(int station) {
            return station >= 0 && station < stations && dishes[station].portions > 0;
        }
    }

    /** The tokens of a text, one after the other. */
    private static final class Tokens {
        final byte[] bytes;
        int length;
        int at;
        int end;
        int kind;
        int number;
        int letters;

        Tokens(byte[] bytes) {
            this.bytes = bytes;
        }

        void begin(int n) {
            length = n < bytes.length ? n : bytes.length;
            end = 0;
            advance();
        }

        void advance() {
            int i = end;
            while (i < length && (bytes[i] == 10 || bytes[i] == 32)) {
                i++;
            }
            at = i;
            end = i;
            if (i >= length) {
                kind = END;
            } else if (bytes[i] >= 'a' && bytes[i] <= 'z') {
                readWord();
            } else if (bytes[i] >= '0' && bytes[i] <= '9') {
                readNumber();
            } else {
                readSign();
            }
        }

        private void readWord() {
            int i = at;
            int packed = 0;
            while (i < length && bytes[i] >= 'a' && bytes[i] <= 'z') {
                int behind = MOST_LETTERS - 1 - (i - at);
                if (behind >= 0) {
                    packed |= (bytes[i] - 'a' + 1) << (5 * behind);
                }
                i++;
            }
            end = i;
            letters = packed;
            int word = wordOfLanguage();
            if (word != NONE) {
                kind = word;
            } else {
                kind = end - at <= MOST_LETTERS ? NAME : NO_TOKEN;
            }
        }

        private int wordOfLanguage() {
            int word = 0;
            int i = at;
            boolean same = true;
            for (int k = 0; k < WORDS.length(); k++) {
                char letter = WORDS.charAt(k);
                if (letter != ' ') {
                    same = same && i < end && bytes[i] == letter;
                    i++;
                } else if (same && i == end) {
                    return word;
                } else {
                    word++;
                    i = at;
                    same = true;
                }
            }
            return NONE;
        }

        private void readNumber() {
            int i = at;
            int value = 0;
            while (i < length && bytes[i] >= '0' && bytes[i] <= '9') {
                // Beyond every bound of the language more digits change nothing.
                value = value > MOST_NUMBER ? value : value * 10 + (bytes[i] - '0');
                i++;
            }
            end = i;
            number = value;
            kind = NUMBER;
        }

        private void readSign() {
            int next = at + 1 < length ? bytes[at + 1] : 0;
            end = at + 1;
            switch (bytes[at]) {
                case ';':
                    kind = SEMICOLON;
                    break;
                case '(':
                    kind = OPEN;
                    break;
                case ')':
                    kind = SHUT;
                    break;
                case '+':
                    kind = PLUS;
                    break;
                case '-':
                    kind = MINUS;
                    break;
                case '*':
                    kind = TIMES;
                    break;
                case '/':
                    kind = BY;
                    break;
                case '=':
                    kind = EQUAL;
                    break;
                case '<':
                    kind = next == '=' ? LESS_EQUAL : next == '>' ? UNEQUAL : LESS;
                    break;
                case '>':
                    kind = next == '=' ? GREATER_EQUAL : GREATER;
                    break;
                default:
                    kind = NO_TOKEN;
                    break;
            }
            if (kind == LESS_EQUAL || kind == UNEQUAL || kind == GREATER_EQUAL) {
                end = at + 2;
            }
        }
    }

    /** Reads a text into a plan, up to its first fault. */
    private static final class Reader {
        final Tokens tokens;
        Plan plan;
        int fault;
        int place = NONE;
        int lines;
        private boolean closeTold;
        private int value;
        private int letters;
        // Of the E that is read.
        private int knots;
        private final int[] signs = new int[MOST_KNOTS + MOST_OPEN];
        private int waiting;
        private int open;
        private int compared;
        private boolean valueDue;
        private boolean notMayStand;

        Reader(Tokens tokens) {
            this.tokens = tokens;
        }

        void begin(Plan into, int n) {
            plan = into;
            plan.clear();
            fault = 0;
            place = NONE;
            lines = 0;
            knots = 0;
            closeTold = false;
            tokens.begin(n);
        }

        boolean atEnd() {
            return fault != 0 || tokens.kind == END;
        }

        private boolean refuse(int why) {
            fault = why;
            place = tokens.at;
            return false;
        }

        void endLine() {
            if (tokens.kind != SEMICOLON) {
                refuse(CANNOT_STAND);
                return;
            }
            tokens.advance();
            lines++;
        }

        /** A line up to its ';': false with a fault. */
        boolean readLine() {
            switch (tokens.kind) {
                case STATION:
                    return readStation();
                case GUEST:
                    return readGuest();
                case PASS:
                    return readPass();
                case AGAIN:
                    return readAgain();
                case CLOSE:
                    return readClose();
                case LAW:
                    return readLaw();
                case MAY:
                    return readMay();
                default:
                    return refuse(CANNOT_STAND);
            }
        }

        private boolean readNumber(int least, int most) {
            if (tokens.kind != NUMBER) {
                return refuse(CANNOT_STAND);
            }
            if (tokens.number < least || tokens.number > most) {
                return refuse(TOO_MUCH);
            }
            value = tokens.number;
            tokens.advance();
            return true;
        }

        /** A name that is none yet of its kind: STATION, GUEST or MAY. */
        private boolean readNewName(int kind) {
            if (tokens.kind != NAME) {
                return refuse(CANNOT_STAND);
            }
            letters = tokens.letters;
            int told = kind == STATION ? plan.stationOf(letters)
                    : kind == GUEST ? plan.guestOf(letters) : plan.mayOf(letters);
            if (told != NONE) {
                return refuse(TOLD_ALREADY);
            }
            tokens.advance();
            return true;
        }

        private boolean readStation() {
            if (plan.stations >= MOST_STATIONS) {
                return refuse(TOO_MUCH);
            }
            Dish dish = plan.dishes[plan.stations];
            dish.clear();
            tokens.advance();
            if (!readNewName(STATION)) {
                return false;
            }
            dish.name = letters;
            if (!readNumber(1, MOST_TAKING)) {
                return false;
            }
            dish.seconds = value;
            if (!readNumber(1, MOST_PLACES)) {
                return false;
            }
            dish.places = value;
            if (tokens.kind == PAN) {
                tokens.advance();
                if (!readNumber(1, MOST_PORTIONS)) {
                    return false;
                }
                dish.portions = value;
                if (!readNumber(1, MOST_LAG)) {
                    return false;
                }
                dish.lag = value;
                if (!readNumber(0, MOST_FROM)) {
                    return false;
                }
                dish.from = value;
            }
            if (tokens.kind == COLD) {
                tokens.advance();
                if (!readNumber(1, DAY)) {
                    return false;
                }
                dish.cold = value;
            }
            plan.stations++;
            return true;
        }

        private boolean readGuest() {
            if (plan.guests >= MOST_GUESTS) {
                return refuse(TOO_MUCH);
            }
            Caller caller = plan.callers[plan.guests];
            caller.clear();
            tokens.advance();
            if (!readNewName(GUEST)) {
                return false;
            }
            caller.name = letters;
            if (!readNumber(0, DAY - 1)) {
                return false;
            }
            caller.comes = value;
            if (!readNumber(1, MOST_SIZE)) {
                return false;
            }
            caller.size = value;
            // One more than there are stations: it is refused as told already.
            for (int i = 0; i <= MOST_STATIONS && tokens.kind == WANTS; i++) {
                tokens.advance();
                int station = wantedStation(caller);
                if (station == NONE) {
                    return false;
                }
                tokens.advance();
                if (!readNumber(1, MOST_WANTED)) {
                    return false;
                }
                caller.wants[station] = value;
            }
            plan.guests++;
            return true;
        }

        private int wantedStation(Caller caller) {
            if (tokens.kind != NAME) {
                refuse(CANNOT_STAND);
                return NONE;
            }
            int station = plan.stationOf(tokens.letters);
            if (station == NONE) {
                refuse(NOT_TOLD);
                return NONE;
            }
            if (caller.wants[station] > 0) {
                refuse(TOLD_ALREADY);
                return NONE;
            }
            return station;
        }

        private boolean readPass() {
            if (plan.pass) {
                return refuse(TOLD_ALREADY);
            }
            plan.pass = true;
            tokens.advance();
            return true;
        }

        private boolean readAgain() {
            if (plan.again > 0) {
                return refuse(TOLD_ALREADY);
            }
            tokens.advance();
            if (!readNumber(1, MOST_SITTING)) {
                return false;
            }
            plan.again = value;
            return true;
        }

        private boolean readClose() {
            if (closeTold) {
                return refuse(TOLD_ALREADY);
            }
            tokens.advance();
            if (!readNumber(0, DAY)) {
                return false;
            }
            plan.close = value;
            closeTold = true;
            return true;
        }

        private boolean readLaw() {
            tokens.advance();
            int kind = tokens.kind - HEAP;
            if (kind < 0 || kind >= KINDS) {
                return refuse(CANNOT_STAND);
            }
            if (plan.told[kind] != NONE) {
                return refuse(TOLD_ALREADY);
            }
            tokens.advance();
            int start = plan.laws.size;
            if (!readExpression()) {
                return false;
            }
            plan.told[kind] = plan.laws.addLaw(start);
            return true;
        }

        private boolean readMay() {
            if (plan.mays >= MOST_MAYS) {
                return refuse(TOO_MUCH);
            }
            tokens.advance();
            int kind = tokens.kind - HEAP;
            if (kind < 0 || kind >= KINDS) {
                return refuse(CANNOT_STAND);
            }
            tokens.advance();
            if (!readNewName(MAY)) {
                return false;
            }
            plan.mayNames[plan.mays] = letters;
            plan.mayKinds[plan.mays] = kind;
            int start = plan.laws.size;
            if (!readExpression()) {
                return false;
            }
            plan.mayLaws[plan.mays] = plan.laws.addLaw(start);
            plan.mays++;
            return true;
        }

        /** Up to the ';', which alone may stand behind an E. */
        private boolean readExpression() {
            waiting = 0;
            open = 0;
            compared = 0;
            valueDue = true;
            notMayStand = true;
            for (int i = 0; i <= tokens.length; i++) {
                if (!valueDue && open == 0 && tokens.kind == SEMICOLON) {
                    releaseSigns(RANK_OR);
                    return true;
                }
                if (!(valueDue ? readValue() : readBehindValue())) {
                    return false;
                }
                tokens.advance();
            }
            return refuse(CANNOT_STAND);
        }

        private boolean readValue() {
            int kind = tokens.kind;
            if (kind == OPEN) {
                if (open >= MOST_OPEN) {
                    return refuse(TOO_MUCH);
                }
                open++;
                compared &= ~(1 << open);
                holdSign(OPEN);
                notMayStand = true;
                return true;
            }
            if (kind == NOT && notMayStand) {
                if (!countKnot()) {
                    return false;
                }
                holdSign(NOT);
                return true;
            }
            if (kind != NUMBER && (kind < WANT || kind > TAKEN)) {
                return refuse(CANNOT_STAND);
            }
            if (kind == NUMBER && tokens.number > MOST_NUMBER) {
                return refuse(TOO_MUCH);
            }
            if (!countKnot()) {
                return false;
            }
            plan.laws.addKnot(kind == NUMBER ? tokens.number : NO_NUMBER + kind);
            valueDue = false;
            return true;
        }

        private boolean readBehindValue() {
            int kind = tokens.kind;
            if (kind == SHUT && open > 0) {
                releaseSigns(RANK_OR);
                waiting = waiting > 0 ? waiting - 1 : 0;
                open--;
                return true;
            }
            int rank = rankOf(kind);
            boolean second = rank == RANK_COMPARE && ((compared >> open) & 1) == 1;
            if (rank == 0 || rank == RANK_NOT || second) {
                return refuse(CANNOT_STAND);
            }
            if (!countKnot()) {
                return false;
            }
            releaseSigns(rank);
            holdSign(kind);
            valueDue = true;
            notMayStand = rank <= RANK_AND;
            if (rank == RANK_COMPARE) {
                compared |= 1 << open;
            } else if (rank <= RANK_AND) {
                compared &= ~(1 << open);
            }
            return true;
        }

        private boolean countKnot() {
            if (knots >= MOST_KNOTS) {
                return refuse(TOO_MUCH);
            }
            knots++;
            return true;
        }

        private void holdSign(int sign) {
            if (waiting < signs.length) {
                signs[waiting] = sign;
                waiting++;
            }
        }

        /** The signs held since the last '(' that bind at least so tightly become knots. */
        private void releaseSigns(int rank) {
            while (waiting > 0 && rankOf(signs[waiting - 1]) >= rank) {
                waiting--;
                plan.laws.addKnot(NO_NUMBER + signs[waiting]);
            }
        }

        private static int rankOf(int kind) {
            switch (kind) {
                case OR:
                    return RANK_OR;
                case AND:
                    return RANK_AND;
                case NOT:
                    return RANK_NOT;
                case LESS:
                case LESS_EQUAL:
                case EQUAL:
                case UNEQUAL:
                case GREATER_EQUAL:
                case GREATER:
                    return RANK_COMPARE;
                case PLUS:
                case MINUS:
                    return RANK_SUM;
                case TIMES:
                case BY:
                    return RANK_PRODUCT;
                default:
                    return 0;
            }
        }
    }

    /** A station as it is now; due is NONE while no pan is on its way. */
    private static final class Pan {
        int portions;
        int age;
        int due;
        int taken;
        int cold;
        int empty;
        int filled;

        void begin(Dish dish) {
            portions = dish.portions;
            age = 0;
            due = NONE;
            taken = 0;
            cold = 0;
            empty = 0;
            filled = 0;
        }

        void copyFrom(Pan other) {
            portions = other.portions;
            age = other.age;
            due = other.due;
            taken = other.taken;
            cold = other.cold;
            empty = other.empty;
            filled = other.filled;
        }

        void addPan(Dish dish) {
            portions += dish.portions;
            age = 0;
            filled++;
        }
    }

    /** A guest as they are now; back is the second at which one who sits comes again. */
    private static final class Guest {
        int state;
        int pos;
        int room;
        final int[] wants = new int[MOST_STATIONS];
        int takes;
        boolean waits;
        int back;
        int waited;
        int taken;
        int eaten;
        int left;
        int missed;
        int came;

        void begin(Caller caller) {
            state = TO_COME;
            System.arraycopy(caller.wants, 0, wants, 0, MOST_STATIONS);
            back = NONE;
            waited = 0;
            taken = 0;
            eaten = 0;
            left = 0;
            missed = 0;
            came = 0;
            clearPlate(caller);
        }

        void clearPlate(Caller caller) {
            pos = NONE;
            room = caller.size;
            takes = 0;
            waits = false;
        }

        void copyFrom(Guest other) {
            state = other.state;
            pos = other.pos;
            room = other.room;
            System.arraycopy(other.wants, 0, wants, 0, MOST_STATIONS);
            takes = other.takes;
            waits = other.waits;
            back = other.back;
            waited = other.waited;
            taken = other.taken;
            eaten = other.eaten;
            left = other.left;
            missed = other.missed;
            came = other.came;
        }

        int wantsLeft() {
            int sum = 0;
            for (int i = 0; i < MOST_STATIONS; i++) {
                sum += wants[i];
            }
            return sum;
        }

        void goWithout(int station) {
            wants[station] = 0;
            missed++;
        }
    }

    /** The table at the beginning of a second, and what a second does to it. */
    private static final class Table {
        Plan plan;
        int second;
        final int[] row = new int[MOST_STATIONS];
        final Pan[] pans = new Pan[MOST_STATIONS];
        final Guest[] guests = new Guest[MOST_AT_TABLE];
        final int[] queue = new int[MOST_AT_TABLE];
        int queued;
        // Of the second that goes by: all who don't take are held up, and would be in the next.
        private boolean calm;

        Table(Plan plan) {
            this.plan = plan;
            for (int i = 0; i < MOST_STATIONS; i++) {
                pans[i] = new Pan();
                row[i] = i;
            }
            for (int i = 0; i < MOST_AT_TABLE; i++) {
                guests[i] = new Guest();
            }
        }

        void begin(Plan by, int[] order) {
            plan = by;
            second = 0;
            queued = 0;
            System.arraycopy(order, 0, row, 0, MOST_STATIONS);
            for (int i = 0; i < plan.stations; i++) {
                pans[i].begin(plan.dishes[i]);
            }
            for (int i = 0; i < plan.guests; i++) {
                guests[i].begin(plan.callers[i]);
            }
        }

        void copyFrom(Table other) {
            plan = other.plan;
            second = other.second;
            queued = other.queued;
            System.arraycopy(other.row, 0, row, 0, MOST_STATIONS);
            System.arraycopy(other.queue, 0, queue, 0, MOST_AT_TABLE);
            for (int i = 0; i < plan.stations; i++) {
                pans[i].copyFrom(other.pans[i]);
            }
            for (int i = 0; i < plan.guests; i++) {
                guests[i].copyFrom(other.guests[i]);
            }
        }

        void go(int n) {
            int stop = second + n;
            for (int i = 0; i < n && second < stop; i++) {
                calm = true;
                fillPans();
                admitGuests();
                walkAll();
                takeOn();
                orderPans();
                second++;
                if (calm) {
                    repeatCalm(calmSeconds(stop - second));
                }
            }
        }

        /** How many seconds, behind a calm one, are just like it: nobody comes, no pan does. */
        private int calmSeconds(int most) {
            int calmFor = most;
            for (int i = 0; i < plan.stations; i++) {
                int due = pans[i].due;
                if (due != NONE) {
                    calmFor = Math.min(calmFor, due - second);
                }
            }
            for (int i = 0; i < plan.guests; i++) {
                Guest guest = guests[i];
                int comes = guest.state == TO_COME ? plan.callers[i].comes : guest.back;
                if (guest.state == IN_LINE && guest.takes > 0) {
                    calmFor = Math.min(calmFor, guest.takes);
                } else if (guest.state != IN_LINE && comes >= second) {
                    calmFor = Math.min(calmFor, comes - second);
                }
            }
            return calmFor;
        }

        private void repeatCalm(int n) {
            if (n <= 0) {
                return;
            }
            second += n;
            for (int i = 0; i < queued; i++) {
                Guest guest = guests[queue[i]];
                if (guest.takes > 0) {
                    guest.takes -= n;
                } else {
                    guest.waited += n;
                }
            }
            for (int i = 0; i < plan.stations; i++) {
                if (plan.dishes[i].portions > 0) {
                    pans[i].age += n;
                    pans[i].empty += pans[i].portions == 0 ? n : 0;
                }
            }
        }

        private void fillPans() {
            for (int i = 0; i < plan.stations; i++) {
                Pan pan = pans[i];
                if (pan.due != NONE && pan.due <= second) {
                    pan.addPan(plan.dishes[i]);
                    pan.due = NONE;
                }
            }
        }

        private void admitGuests() {
            for (int i = 0; i < plan.guests; i++) {
                Guest guest = guests[i];
                boolean first = guest.state == TO_COME && plan.callers[i].comes == second;
                boolean again = guest.state == SITS && guest.back == second;
                if ((first || again) && queued < MOST_AT_TABLE) {
                    guest.state = IN_LINE;
                    guest.came++;
                    guest.clearPlate(plan.callers[i]);
                    queue[queued] = i;
                    queued++;
                }
            }
        }

        private void walkAll() {
            int k = 0;
            for (int i = queued; i > 0 && k < queued; i--) {
                boolean gone = guests[queue[k]].takes == 0 && walk(k);
                if (!gone) {
                    k++;
                }
            }
        }

        /** True: they have left the line. */
        private boolean walk(int k) {
            Guest guest = guests[queue[k]];
            int next = nextPlace(guest);
            if (!plan.pass && k > 0) {
                int ahead = guests[queue[k - 1]].pos;
                if (ahead < next) {
                    guest.pos = ahead > guest.pos ? ahead : guest.pos;
                    guest.waited++;
                    return false;
                }
            }
            if (next >= plan.stations) {
                calm = false;
                leaveLine(k);
                return true;
            }
            guest.pos = next;
            guest.waits = false;
            int station = row[next];
            boolean gone = plan.hasPan(station) && pans[station].portions == 0;
            if (!gone && takersAt(next) < plan.dishes[station].places) {
                calm = false;
                take(queue[k], station);
            } else if (gone || leavesOut(queue[k], station)) {
                calm = false;
                guest.goWithout(station);
            } else {
                // What a law says of leaving may change from one second to the next.
                calm = calm && plan.told[KIND_LEAVE] == NONE;
                guest.waits = true;
                guest.waited++;
            }
            return false;
        }

        /** The number of stations stands for the end. */
        private int nextPlace(Guest guest) {
            if (guest.room <= 0) {
                return plan.stations;
            }
            int place = guest.waits ? guest.pos : guest.pos + 1;
            while (place < plan.stations && guest.wants[row[place]] == 0) {
                place++;
            }
            return place;
        }

        private int takersAt(int place) {
            int takers = 0;
            for (int i = 0; i < queued; i++) {
                Guest guest = guests[queue[i]];
                if (guest.takes > 0 && guest.pos == place) {
                    takers++;
                }
            }
            return takers;
        }

        private void take(int number, int station) {
            Guest guest = guests[number];
            Pan pan = pans[station];
            Dish dish = plan.dishes[station];
            describe(number, station);
            long wanted = plan.laws.value(plan.told[KIND_HEAP]);
            wanted = wanted == ERROR ? guest.wants[station] : wanted;
            wanted = wanted < 0 ? 0 : wanted;
            wanted = wanted > guest.room ? guest.room : wanted;
            if (plan.hasPan(station) && wanted > pan.portions) {
                wanted = pan.portions;
            }
            int heap = (int) wanted;
            if (plan.hasPan(station)) {
                pan.portions -= heap;
            }
            pan.taken += heap;
            if (dish.cold > 0 && pan.age >= dish.cold) {
                pan.cold += heap;
            }
            guest.room -= heap;
            guest.taken += heap;
            guest.wants[station] = heap < guest.wants[station] ? guest.wants[station] - heap : 0;
            guest.takes = dish.seconds;
        }

        private boolean leavesOut(int number, int station) {
            describe(number, station);
            long value = plan.laws.value(plan.told[KIND_LEAVE]);
            return value != ERROR && value != 0;
        }

        private void leaveLine(int k) {
            int number = queue[k];
            Guest guest = guests[number];
            int plate = plan.callers[number].size - guest.room;
            describe(number, NONE);
            long eats = plan.laws.value(plan.told[KIND_EATS]);
            eats = eats == ERROR || eats > plate ? plate : eats;
            eats = eats < 0 ? 0 : eats;
            guest.eaten += (int) eats;
            guest.left += plate - (int) eats;
            boolean again = plan.again > 0 && plate > 0 && guest.wantsLeft() > 0;
            guest.state = again ? SITS : DONE;
            guest.back = again ? second + plan.again : NONE;
            stepOut(k);
        }

        private void stepOut(int k) {
            int number = queue[k];
            for (int i = k; i + 1 < queued; i++) {
                queue[i] = queue[i + 1];
            }
            queued--;
            guests[number].clearPlate(plan.callers[number]);
        }

        /** The names of an E, for a guest at a station; at none (NONE) for what they eat. */
        private void describe(int number, int station) {
            Guest guest = guests[number];
            Laws laws = plan.laws;
            int size = plan.callers[number].size;
            boolean pan = plan.hasPan(station);
            int here = pan ? pans[station].portions : HERE_WITHOUT_PAN;
            laws.setName(WANT, station == NONE ? guest.wantsLeft() : guest.wants[station]);
            laws.setName(ROOM, guest.room);
            laws.setName(HERE, station == NONE ? 0 : here);
            laws.setName(AGE, pan ? pans[station].age : 0);
            laws.setName(LINE, queued);
            laws.setName(LATE, second - plan.callers[number].comes);
            laws.setName(SIZE, size);
            laws.setName(TAKEN, size - guest.room);
        }

        private void takeOn() {
            for (int i = 0; i < queued; i++) {
                Guest guest = guests[queue[i]];
                if (guest.takes > 0) {
                    guest.takes--;
                    calm = calm && guest.takes > 0;
                }
            }
        }

        private void orderPans() {
            for (int i = 0; i < plan.stations; i++) {
                Dish dish = plan.dishes[i];
                Pan pan = pans[i];
                if (dish.portions > 0) {
                    if (pan.portions <= dish.from && pan.due == NONE && second < plan.close) {
                        pan.due = second + dish.lag;
                    }
                    pan.age++;
                    pan.empty += pan.portions == 0 ? 1 : 0;
                }
            }
        }

        void perform(int deed, int a, int b) {
            if (deed == PUT_DOWN) {
                pans[a].addPan(plan.dishes[a]);
            } else if (deed == CHANGED_OVER) {
                int station = row[a];
                row[a] = row[b];
                row[b] = station;
            } else if (deed == SENT_AWAY) {
                sendAway(a);
            }
        }

        private void sendAway(int number) {
            Guest guest = guests[number];
            guest.state = DONE;
            guest.back = NONE;
            guest.left += plan.callers[number].size - guest.room;
            for (int k = 0; k < queued; k++) {
                if (queue[k] == number) {
                    stepOut(k);
                    return;
                }
            }
        }

        int placeOf(int station) {
            for (int i = 0; i < plan.stations; i++) {
                if (row[i] == station) {
                    return i;
                }
            }
            return NONE;
        }

        int waitedByAll() {
            int sum = 0;
            for (int i = 0; i < plan.guests; i++) {
                sum += guests[i].waited;
            }
            return sum;
        }

        int takenInAll() {
            int sum = 0;
            for (int i = 0; i < plan.stations; i++) {
                sum += pans[i].taken;
            }
            return sum;
        }

        int leftInAll() {
            int sum = 0;
            for (int i = 0; i < plan.guests; i++) {
                sum += guests[i].left;
            }
            return sum;
        }

        int cameAgain() {
            int sum = 0;
            for (int i = 0; i < plan.guests; i++) {
                sum += guests[i].came > 1 ? guests[i].came - 1 : 0;
            }
            return sum;
        }

        int portionsInAll() {
            int sum = 0;
            for (int i = 0; i < plan.stations; i++) {
                sum += pans[i].portions;
            }
            return sum;
        }
    }

    /** What was counted; a strike has NONE for its station, and its count as second. */
    private static final class Tally {
        int size;
        int knownBy;
        final int[] stations = new int[MOST_COUNTS];
        final int[] seconds = new int[MOST_COUNTS];
        final int[] least = new int[MOST_COUNTS];
        final int[] most = new int[MOST_COUNTS];
        final boolean[] holds = new boolean[MOST_COUNTS];

        void clear() {
            size = 0;
            knownBy = NONE;
        }

        int add(int station, int second, int from, int to) {
            if (size >= MOST_COUNTS) {
                return NONE;
            }
            stations[size] = station;
            seconds[size] = second;
            least[size] = from;
            most[size] = to;
            size++;
            return size - 1;
        }

        int knownCounts() {
            return knownBy == NONE ? size : knownBy;
        }

        /** From the last one on, as a strike strikes only what is ahead of it. */
        void markHolding() {
            int known = knownCounts();
            for (int i = 0; i < MOST_COUNTS; i++) {
                holds[i] = i < known;
            }
            for (int i = known - 1; i >= 0; i--) {
                int struck = seconds[i];
                if (holds[i] && stations[i] == NONE && struck >= 0 && struck < i) {
                    holds[struck] = false;
                }
            }
        }

        /** The first second from one on at which something was counted that holds. */
        int nextSecond(int from) {
            int next = NONE;
            for (int i = 0; i < size; i++) {
                boolean asked = holds[i] && stations[i] != NONE && seconds[i] >= from;
                if (asked && (next == NONE || seconds[i] < next)) {
                    next = seconds[i];
                }
            }
            return next;
        }

        boolean agrees(int second, Table table) {
            for (int i = 0; i < size; i++) {
                if (holds[i] && stations[i] != NONE && seconds[i] == second) {
                    int portions = table.pans[stations[i]].portions;
                    if (portions < least[i] || portions > most[i]) {
                        return false;
                    }
                }
            }
            return true;
        }
    }

    private final byte[] tape = new byte[MOST_BYTES];
    private int taped;
    private final Reader reader = new Reader(new Tokens(tape));
    private Plan told = new Plan();
    // For a text that may have a fault, and for runs by other plans than the told one.
    private Plan spare = new Plan();
    private final Table now;
    private final Table trial;
    private final Table image;
    private boolean imageKept;
    // The table ahead of all deeds that can be undone: undoing plays the others again.
    private final Table base;
    private final int[] deeds = new int[MOST_UNDONE * DEED_FIELDS];
    private int undoable;
    private final Tally tally = new Tally();
    private final int[] order = new int[MOST_STATIONS];
    private final int[] bestOrder = new int[MOST_STATIONS];

    public EggTrays() {
        told.clear();
        spare.clear();
        tally.clear();
        now = new Table(told);
        trial = new Table(told);
        image = new Table(told);
        base = new Table(told);
    }

    public int feed(int a, int b, int c, int d, int e) {
        if (taped + FED_BYTES > MOST_BYTES) {
            return NONE;
        }
        feedNumber(a);
        feedNumber(b);
        feedNumber(c);
        feedNumber(d);
        feedNumber(e);
        return taped;
    }

    private void feedNumber(int number) {
        for (int shift = 24; shift >= 0 && taped < MOST_BYTES; shift -= 8) {
            tape[taped] = (byte) (number >> shift);
            taped++;
        }
    }

    public int text(int n) {
        if (n < 0 || n > taped) {
            return NOT_SO_MANY;
        }
        taped = 0;
        reader.begin(spare, n);
        // Every line uses up a byte at least.
        for (int i = 0; i < n && !reader.atEnd(); i++) {
            if (reader.readLine()) {
                reader.endLine();
            }
        }
        if (reader.fault != 0) {
            return NONE;
        }
        Plan old = told;
        told = spare;
        spare = old;
        orderByNumbers();
        now.begin(told, order);
        tally.clear();
        imageKept = false;
        undoable = 0;
        return reader.lines;
    }

    public int fault(int what) {
        if (what == 0) {
            return reader.fault;
        }
        return what == 1 ? reader.place : NONE;
    }

    public int named(int what, int letters) {
        switch (what) {
            case 0:
                return told.stationOf(letters);
            case 1:
                return told.guestOf(letters);
            case 2:
                return told.mayOf(letters);
            default:
                return NONE;
        }
    }

    public int look(int guest, int what) throws IndexOutOfBoundsException, NoSuchElementException {
        if (!told.hasGuest(guest)) {
            throw new IndexOutOfBoundsException("no such guest");
        }
        Guest asked = now.guests[guest];
        switch (what) {
            case 0:
                return asked.state;
            case 1:
                return asked.pos;
            case 2:
                return asked.room;
            case 3:
                return asked.wantsLeft();
            case 4:
                return asked.takes;
            case 5:
                return asked.waited;
            case 6:
                return asked.taken;
            case 7:
                return asked.eaten;
            case 8:
                return asked.left;
            case 9:
                return asked.missed;
            case 10:
                return asked.came;
            default:
                throw new NoSuchElementException("no such what");
        }
    }

    public int station(int station, int what) {
        if (!told.hasStation(station)) {
            return NONE;
        }
        Pan pan = now.pans[station];
        switch (what) {
            case 0:
                return told.dishes[station].seconds;
            case 1:
                return told.dishes[station].places;
            case 2:
                return told.hasPan(station) ? pan.portions : NONE;
            case 3:
                return pan.age;
            case 4:
                return pan.due;
            case 5:
                return pan.taken;
            case 6:
                return pan.cold;
            case 7:
                return pan.empty;
            case 8:
                return pan.filled;
            case 9:
                return now.placeOf(station);
            default:
                return NONE;
        }
    }

    public int row(int place) {
        return told.hasStation(place) ? now.row[place] : NONE;
    }

    public int line(int k) {
        return k >= 0 && k < now.queued ? now.queue[k] : NONE;
    }

    public int seconds(int n) {
        if (n < 0 || n > MOST_SECONDS_AT_ONCE || now.second + n > DAY) {
            return NONE;
        }
        if (n > 0) {
            undoable = 0;
        }
        now.go(n);
        return now.second;
    }

    public int put(int station) {
        if (!told.hasPan(station)) {
            return NONE;
        }
        doByHand(PUT_DOWN, station, 0);
        return now.pans[station].portions;
    }

    public boolean change(int a, int b) {
        if (!told.hasStation(a) || !told.hasStation(b) || a == b || now.queued > 0) {
            return false;
        }
        doByHand(CHANGED_OVER, a, b);
        return true;
    }

    public boolean send(int guest) {
        if (!told.hasGuest(guest) || now.guests[guest].state == DONE) {
            return false;
        }
        doByHand(SENT_AWAY, guest, 0);
        return true;
    }

    public int undo() {
        if (undoable <= 0) {
            return NONE;
        }
        undoable--;
        now.copyFrom(base);
        for (int i = 0; i < undoable; i++) {
            performAgain(now, i);
        }
        return undoable;
    }

    private void doByHand(int deed, int a, int b) {
        if (undoable == 0) {
            base.copyFrom(now);
        }
        if (undoable >= MOST_UNDONE) {
            performAgain(base, 0);
            System.arraycopy(deeds, DEED_FIELDS, deeds, 0, (MOST_UNDONE - 1) * DEED_FIELDS);
            undoable = MOST_UNDONE - 1;
        }
        int at = undoable * DEED_FIELDS;
        deeds[at] = deed;
        deeds[at + 1] = a;
        deeds[at + 2] = b;
        undoable++;
        now.perform(deed, a, b);
    }

    private void performAgain(Table table, int which) {
        int at = which * DEED_FIELDS;
        table.perform(deeds[at], deeds[at + 1], deeds[at + 2]);
    }

    public int waited(int n) {
        return isLength(n) ? waitedBy(told, n) : NONE;
    }

    private static boolean isLength(int n) {
        return n >= 0 && n <= DAY;
    }

    private int waitedBy(Plan plan, int n) {
        trial.begin(plan, now.row);
        trial.go(n);
        return trial.waitedByAll();
    }

    public int slow(int guest, int n) {
        if (!told.hasGuest(guest) || !isLength(n)) {
            return Integer.MIN_VALUE;
        }
        int with = waitedBy(told, n);
        with -= trial.guests[guest].waited;
        spare.copyFrom(told);
        spare.callers[guest].comes = NONE;
        return with - waitedBy(spare, n);
    }

    public int many(int station, int n, int bound) {
        if (!told.hasStation(station) || !isLength(n) || bound < 0 || bound > MOST_BOUND) {
            return NONE;
        }
        spare.copyFrom(told);
        for (int places = 1; places <= MOST_PLACES; places++) {
            spare.dishes[station].places = places;
            if (waitedBy(spare, n) <= bound) {
                return places;
            }
        }
        return NOT_SO_MANY;
    }

    public int best(int n, int what) {
        if (told.stations == 0 || !isLength(n) || what < 0 || what > told.stations) {
            return NONE;
        }
        int least = NONE;
        orderByNumbers();
        boolean more = true;
        for (int i = 0; i < MOST_ROWS && more; i++) {
            trial.begin(told, order);
            trial.go(n);
            int waited = trial.waitedByAll();
            if (least == NONE || waited < least) {
                least = waited;
                System.arraycopy(order, 0, bestOrder, 0, MOST_STATIONS);
            }
            more = nextOrder(told.stations);
        }
        return what == 0 ? least : bestOrder[what - 1];
    }

    private void orderByNumbers() {
        for (int i = 0; i < MOST_STATIONS; i++) {
            order[i] = i;
        }
    }

    /** The next order of the first stations by their numbers; false behind the last. */
    private boolean nextOrder(int stations) {
        int i = stations - 2;
        while (i >= 0 && order[i] > order[i + 1]) {
            i--;
        }
        if (i < 0) {
            return false;
        }
        int j = stations - 1;
        while (j > i && order[j] < order[i]) {
            j--;
        }
        swapInOrder(i, j);
        int low = i + 1;
        int high = stations - 1;
        while (low < high) {
            swapInOrder(low, high);
            low++;
            high--;
        }
        return true;
    }

    private void swapInOrder(int i, int j) {
        int station = order[i];
        order[i] = order[j];
        order[j] = station;
    }

    public int seen(int station, int n) {
        if (!told.hasStation(station) || !isLength(n)) {
            return Integer.MIN_VALUE;
        }
        int first = takenAt(station, 0, n);
        return first - takenAt(station, told.stations - 1, n);
    }

    private int takenAt(int station, int place, int n) {
        orderByNumbers();
        int at = place == 0 ? 1 : 0;
        for (int i = 0; i < told.stations && at < MOST_STATIONS; i++) {
            if (now.row[i] != station) {
                order[at] = now.row[i];
                at++;
            }
        }
        order[place] = station;
        trial.begin(told, order);
        trial.go(n);
        return trial.pans[station].taken;
    }

    public int plates(int size, int n, int what) {
        if (size < 1 || size > MOST_SIZE || !isLength(n) || what < 0 || what > 3) {
            return NONE;
        }
        spare.copyFrom(told);
        for (int i = 0; i < spare.guests; i++) {
            spare.callers[i].size = size;
        }
        int waited = waitedBy(spare, n);
        switch (what) {
            case 0:
                return trial.takenInAll();
            case 1:
                return trial.leftInAll();
            case 2:
                return trial.cameAgain();
            default:
                return waited;
        }
    }

    public int worth(int n) {
        if (!isLength(n)) {
            return Integer.MIN_VALUE;
        }
        spare.copyFrom(told);
        spare.pass = false;
        int without = waitedBy(spare, n);
        spare.pass = true;
        return without - waitedBy(spare, n);
    }

    public int fill(int station, int n, int p, int q, int what) {
        return canWeigh(station, n, p, q, what) ? cheapest(station, n, p, q, what, true) : NONE;
    }

    public int rule(int station, int n, int p, int q, int what) {
        return canWeigh(station, n, p, q, what) ? cheapest(station, n, p, q, what, false) : NONE;
    }

    private boolean canWeigh(int station, int n, int p, int q, int what) {
        boolean weights = p >= 0 && p <= MOST_WEIGHT && q >= 0 && q <= MOST_WEIGHT;
        return told.hasPan(station) && isLength(n) && weights && (what == 0 || what == 1);
    }

    /** By what FROM, or else by what portions in a pan, a run costs least. */
    private int cheapest(int station, int n, int p, int q, int what, boolean byFrom) {
        spare.copyFrom(told);
        Dish dish = spare.dishes[station];
        Pan pan = trial.pans[station];
        int least = NONE;
        int best = NONE;
        int last = byFrom ? MOST_FROM : MOST_PORTIONS;
        for (int tried = byFrom ? 0 : 1; tried <= last; tried++) {
            dish.from = byFrom ? tried : dish.from;
            dish.portions = byFrom ? dish.portions : tried;
            trial.begin(spare, now.row);
            trial.go(n);
            int cost = p * pan.empty + q * pan.portions;
            if (least == NONE || cost < least) {
                least = cost;
                best = tried;
            }
        }
        return what == 0 ? best : least;
    }

    public int bus(int guest, int b, int t, int n) {
        boolean bus = b >= 1 && b <= MOST_ON_BUS && t >= 0 && t < DAY;
        if (!told.hasGuest(guest) || !bus || !isLength(n)) {
            return Integer.MIN_VALUE;
        }
        int without = waitedBy(told, n);
        spare.copyFrom(told);
        for (int i = 0; i < b && spare.guests < MOST_AT_TABLE; i++) {
            Caller caller = spare.callers[spare.guests];
            caller.copyFrom(told.callers[guest]);
            caller.comes = t;
            spare.guests++;
        }
        return waitedBy(spare, n) - without;
    }

    public int chance(int seed, int j, int n, int bound) {
        boolean wrong = seed < 0 || j < 0 || j > MOST_LATER || bound < 0 || bound > MOST_BOUND;
        if (wrong || !isLength(n)) {
            return NONE;
        }
        int above = 0;
        long last = seed;
        spare.copyFrom(told);
        for (int draw = 0; draw < DRAWS; draw++) {
            for (int i = 0; i < told.guests; i++) {
                last = (last * 1103515245L + 12345L) & 0x7fffffffL;
                int comes = told.callers[i].comes + (int) (last / 65536L) % (j + 1);
                spare.callers[i].comes = comes < DAY ? comes : DAY - 1;
            }
            above += waitedBy(spare, n) > bound ? 1 : 0;
        }
        return above;
    }

    public long law(int kind, int want, int room, int here, int line) {
        boolean names = isNamed(want) && isNamed(room) && isNamed(here) && isNamed(line);
        if (kind < 0 || kind >= KINDS || !names) {
            return Long.MIN_VALUE;
        }
        Laws laws = told.laws;
        laws.setName(WANT, want);
        laws.setName(ROOM, room);
        laws.setName(HERE, here);
        laws.setName(AGE, 0);
        laws.setName(LINE, line);
        laws.setName(LATE, 0);
        laws.setName(SIZE, room);
        laws.setName(TAKEN, 0);
        return laws.value(told.told[kind]);
    }

    private static boolean isNamed(int value) {
        return value >= 0 && value <= MOST_NUMBER;
    }

    public int count(int station, int second, int from, int to) {
        boolean counted = from >= 0 && to >= from && to <= MOST_COUNTED;
        if (!told.hasPan(station) || second < 0 || second >= DAY || !counted) {
            return NONE;
        }
        return tally.add(station, second, from, to);
    }

    public int strike(int count) {
        if (count < 0 || count >= tally.size) {
            return NONE;
        }
        return tally.add(NONE, count, 0, 0);
    }

    public boolean known(int n) {
        if (n < NONE || n > tally.size) {
            return false;
        }
        tally.knownBy = n;
        return true;
    }

    public int fits() {
        tally.markHolding();
        int bits = 0;
        for (int may = 0; may <= told.mays; may++) {
            spare.copyFrom(told);
            if (may < told.mays) {
                spare.told[told.mayKinds[may]] = told.mayLaws[may];
            }
            if (fitsSpare()) {
                bits |= 1 << may;
            }
        }
        return bits;
    }

    private boolean fitsSpare() {
        trial.begin(spare, now.row);
        int next = tally.nextSecond(0);
        for (int i = 0; i < MOST_COUNTS && next != NONE; i++) {
            trial.go(next + 1 - trial.second);
            if (!tally.agrees(next, trial)) {
                return false;
            }
            next = tally.nextSecond(trial.second);
        }
        return true;
    }

    public int keep() {
        image.copyFrom(now);
        imageKept = true;
        return now.second;
    }

    public int back() {
        if (!imageKept) {
            return NONE;
        }
        now.copyFrom(image);
        undoable = 0;
        return now.second;
    }

    public int all(int what) {
        switch (what) {
            case 0:
                return told.stations;
            case 1:
                return told.guests;
            case 2:
                return told.mays;
            case 3:
                return told.laws.size;
            case 4:
                return now.second;
            case 5:
                return tally.size;
            case 6:
                return tally.knownCounts();
            case 7:
                return undoable;
            case 8:
                return now.queued;
            case 9:
                return now.takenInAll();
            case 10:
                return now.leftInAll();
            case 11:
                return now.portionsInAll();
            case 12:
                return now.waitedByAll();
            default:
                return NONE;
        }
    }
}
