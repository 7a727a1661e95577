import java.util.Arrays;
import java.util.NoSuchElementException;

/** Halls in which a nutmeg holds a seat: told in a language, played by hand, and looked ahead in. */
public final class NutmegSeats {
    public static final int NONE = -1;

    private static final int OTHERS = -2;
    private static final int SEATS = 7;
    private static final int PERSONS = 5;
    private static final int MARKS = 4;

    private static final int LADY = 1;
    private static final int RASP = 2;
    private static final int CAPTAIN = 3;

    // The first four are the numbers that a draw of SEASONS has for them.
    private static final int LAY = 0;
    private static final int SIT = 1;
    private static final int RISE = 2;
    private static final int GRATE = 3;
    private static final int HOUR = 4;

    private static final int CANT_STAND = 1;
    private static final int NOT_TOLD = 2;
    private static final int TOLD_ALREADY = 3;
    private static final int NOT_AS_TOLD = 4;
    private static final int TOO_MANY = 5;

    private final Tokens tokens = new Tokens();
    private final HallReader hallReader = new HallReader();
    // What is read goes into the draft, which changes places with what stood, if it has no fault.
    private Hall hall = new Hall();
    private Hall hallDraft = new Hall();
    private Evening evening = new Evening();
    private Evening eveningDraft = new Evening();
    private final Scene now = new Scene();
    private final Past past = new Past();
    private final Seen seen = new Seen();
    private final Ahead ahead = new Ahead();
    private final Sittings sittings = new Sittings();

    public NutmegSeats() {
    }

    public int feed(long a, long b, long c) {
        tokens.tape.append(a);
        tokens.tape.append(b);
        tokens.tape.append(c);
        return tokens.tape.length;
    }

    public int hall() {
        int fault = hallReader.read(tokens, hallDraft);
        tokens.tape.length = 0;
        if (fault != 0) {
            return fault;
        }
        Hall old = hall;
        hall = hallDraft;
        hallDraft = old;
        evening.lines = 0;
        now.begin(hall);
        seen.count = 0;
        past.forget();
        return 0;
    }

    public int evening() {
        int fault = eveningDraft.read(tokens, hall);
        tokens.tape.length = 0;
        if (fault != 0) {
            return fault;
        }
        Evening old = evening;
        evening = eveningDraft;
        eveningDraft = old;
        return 0;
    }

    public int seat(int seat, int what) {
        if (!hall.isSeat(seat)) {
            return OTHERS;
        }
        switch (what) {
            case 0:
                return hall.rows[seat];
            case 1:
                return hall.ats[seat];
            case 2:
                return now.owner[seat];
            case 3:
                return now.fresh[seat];
            case 4:
                return now.sitter[seat];
            case 5:
                return hall.near[seat];
            default:
                return OTHERS;
        }
    }

    public int person(int person, int what) {
        if (!hall.isPerson(person)) {
            return OTHERS;
        }
        switch (what) {
            case 0:
                return hall.kinds[person];
            case 1:
                return now.pocket[person];
            case 2:
                return now.chair[person];
            case 3:
                return now.laidBy(person);
            case 4:
                return hall.foes[person];
            default:
                return OTHERS;
        }
    }

    public int lay(int person, int seat) {
        if (!done(LAY, person, seat)) {
            return NONE;
        }
        return now.freshOn(seat);
    }

    public int sit(int person, int seat) {
        if (!done(SIT, person, seat)) {
            return NONE;
        }
        return now.pocketOf(person);
    }

    public int rise(int person) {
        int seat = now.chairOf(person);
        return done(RISE, person, NONE) ? seat : NONE;
    }

    public int grate(int person, int seat) {
        if (!done(GRATE, person, seat)) {
            return NONE;
        }
        return now.freshOn(seat);
    }

    public int hour() {
        past.keep(now);
        return now.passHour(hall, 0);
    }

    public boolean undo() {
        return past.undoInto(now);
    }

    public int judged(int what) {
        return isWithin(what, 0, 2) ? ahead.verdict(hall, evening, what) : OTHERS;
    }

    public int left(int seat) {
        if (!hall.isSeat(seat) || !now.isHeld(seat)) {
            return NONE;
        }
        return ahead.hoursTillGone(hall, now, 1 << seat);
    }

    public int later(int seat, int hours) {
        if (!hall.isSeat(seat) || !now.isHeld(seat) || !isWithin(hours, 0, 60)) {
            return NONE;
        }
        return ahead.freshLater(hall, now, seat, hours);
    }

    public int first() {
        return ahead.firstGone(hall, now);
    }

    public int empties() {
        return ahead.hoursTillEmpty(hall, now);
    }

    public int most(int what) {
        if (what == NONE) {
            return sittings.findMost(hall, now);
        }
        if (!hall.isPerson(what) || now.chairOf(what) != NONE) {
            return OTHERS;
        }
        sittings.findMost(hall, now);
        return sittings.chairOf(what);
    }

    public int could(int person) {
        if (!hall.isPerson(person) || now.chairOf(person) != NONE) {
            return NONE;
        }
        return now.couldSitOn(hall, person);
    }

    public int needs(int person, int seat, int hours) {
        if (!hall.isPerson(person) || !hall.isSeat(seat) || !now.isFree(seat) || !isWithin(hours, 1, 60)) {
            return NONE;
        }
        return ahead.nutmegsFor(hall, now, person, 1 << seat, hours);
    }

    public int keeps(int person, int hours, int what) {
        if (!hall.isPerson(person) || !isWithin(hours, 1, 30) || !isWithin(what, 0, 1)) {
            return NONE;
        }
        int kept = ahead.mostKept(hall, now, person, hours);
        return what == 0 ? Integer.bitCount(kept) : kept;
    }

    public int placed(int what) {
        int ways = sittings.findPlaced(hall);
        if (what == NONE) {
            return ways;
        }
        if (!hall.isPerson(what) || ways == 0) {
            return OTHERS;
        }
        return sittings.chairOf(what);
    }

    public int peace() {
        return pairsThatSitNear(false);
    }

    public int war() {
        return pairsThatSitNear(true);
    }

    public int safe() {
        int set = 0;
        for (int seat = 0; seat < hall.seats; seat++) {
            if (now.isHeld(seat) && (now.sittersOn(hall.nearTo(seat)) & hall.foesOf(now.owner[seat])) == 0) {
                set |= 1 << seat;
            }
        }
        return set;
    }

    public boolean see(int seat, int hours, boolean lies) {
        if (!hall.isSeat(seat) || !isWithin(hours, 1, 60)) {
            return false;
        }
        return seen.add(seat, hours, lies);
    }

    public int who() {
        return ahead.whoFits(hall, now, seen);
    }

    public int ask() {
        return ahead.bestQuestion(hall, now, seen);
    }

    public int far(int seat, int other) {
        if (!hall.isSeat(seat) || !hall.isSeat(other)) {
            return NONE;
        }
        int reached = 1 << seat;
        for (int steps = 0; steps < SEATS; steps++) {
            if ((reached >> other & 1) != 0) {
                return steps;
            }
            reached |= hall.nearAny(reached);
        }
        return NONE;
    }

    public int blocks(int what) {
        if (!isWithin(what, 0, 1)) {
            return NONE;
        }
        int free = now.freeSeats(hall);
        int rest = free;
        int count = 0;
        int largest = 0;
        for (int seat = 0; seat < hall.seats; seat++) {
            if ((rest >> seat & 1) != 0) {
                int block = hall.blockOf(seat, free);
                rest &= ~block;
                count++;
                largest = Math.max(largest, Integer.bitCount(block));
            }
        }
        return what == 0 ? count : largest;
    }

    public int rich() {
        int richest = NONE;
        int most = NONE;
        for (int person = 0; person < hall.persons; person++) {
            int nutmegs = now.nutmegsOf(person);
            if (nutmegs > most) {
                most = nutmegs;
                richest = person;
            }
        }
        return richest;
    }

    public int lone() {
        int set = 0;
        for (int seat = 0; seat < hall.seats; seat++) {
            if (hall.nearTo(seat) == 0) {
                set |= 1 << seat;
            }
        }
        return set;
    }

    public int row(int row) {
        if (!isWithin(row, 0, 4)) {
            return NONE;
        }
        int set = 0;
        for (int seat = 0; seat < hall.seats; seat++) {
            if (hall.rows[seat] == row && now.isFree(seat)) {
                set |= 1 << seat;
            }
        }
        return set;
    }

    public int stands() {
        int set = 0;
        for (int person = 0; person < hall.persons; person++) {
            if (now.chair[person] == NONE && now.couldSitOn(hall, person) == 0) {
                set |= 1 << person;
            }
        }
        return set;
    }

    public int guards(int person) {
        if (!hall.isPerson(person)) {
            return NONE;
        }
        int foes = hall.foesOf(person);
        int set = 0;
        for (int seat = 0; seat < hall.seats; seat++) {
            int near = hall.nearTo(seat);
            if (now.isFree(seat) && ((now.sittersOn(near) | now.ownersOn(near)) & foes) == 0) {
                set |= 1 << seat;
            }
        }
        return set;
    }

    public int chance(int seat, int hours, int odds) {
        if (!hall.isSeat(seat) || !now.isHeld(seat) || !isWithin(hours, 1, 6) || !isWithin(odds, 0, 10)) {
            return NONE;
        }
        return ahead.millionthsGone(hall, now, seat, hours, odds);
    }

    public int rests(int lose, int sits, int bows, int what) throws NoSuchElementException {
        if (!isWithin(lose, 0, 9) || !isWithin(sits, 0, 9) || !isWithin(bows, 0, 9)) {
            throw new NoSuchElementException("no such chair");
        }
        int count = 0;
        for (int pair = 0; pair < 4; pair++) {
            if (isRest(lose, sits, bows, pair)) {
                if (count == what) {
                    return pair;
                }
                count++;
            }
        }
        if (what != NONE) {
            throw new NoSuchElementException("none such at rest");
        }
        return count;
    }

    public int seasons(int seed, int hours, int what) {
        if (!isWithin(seed, 0, 9999) || !isWithin(hours, 1, 99) || !isWithin(what, 0, 2)) {
            return NONE;
        }
        return ahead.season(hall, now, seed, hours, what);
    }

    public boolean mark(int mark, boolean back) {
        if (!isWithin(mark, 0, MARKS - 1)) {
            return false;
        }
        if (back) {
            return past.goBackTo(mark, now, seen);
        }
        past.layMark(mark, now, seen);
        return true;
    }

    public int count(int what) {
        switch (what) {
            case 0:
                return hall.seats;
            case 1:
                return hall.persons;
            case 2:
                return hall.lasts;
            case 3:
                return now.date;
            case 4:
                return now.freeSeats(hall);
            case 5:
                return now.heldSeats();
            case 6:
                return now.sittersOn(hall.allSeats());
            case 7:
                return now.inPockets();
            case 8:
                return evening.lines;
            case 9:
                return seen.count;
            case 10:
                return past.held;
            case 11:
                return tokens.tape.length;
            default:
                return NONE;
        }
    }

    private static boolean isWithin(int number, int least, int most) {
        return number >= least && number <= most;
    }

    /** Does by hand what can be, so that it can be undone; false: it can't be. */
    private boolean done(int verb, int person, int seat) {
        if (!now.canBe(hall, verb, person, seat)) {
            return false;
        }
        past.keep(now);
        now.act(hall, verb, person, seat);
        return true;
    }

    private int pairsThatSitNear(boolean foes) {
        int pairs = 0;
        for (int one = 0; one < hall.persons; one++) {
            int beside = now.chair[one] == NONE ? 0 : now.sittersOn(hall.nearTo(now.chair[one]));
            int counted = foes ? hall.foes[one] : ~hall.foes[one];
            pairs += Integer.bitCount(beside & counted);
        }
        // Each pair has been met from both sides.
        return pairs / 2;
    }

    private static boolean isRest(int lose, int sits, int bows, int pair) {
        int one = pair >> 1;
        int other = pair & 1;
        return gain(lose, sits, bows, one, other) >= gain(lose, sits, bows, 1 - one, other)
            && gain(lose, sits, bows, other, one) >= gain(lose, sits, bows, 1 - other, one);
    }

    /** What one gets by the own choice and the other one's (1 sits). */
    private static int gain(int lose, int sits, int bows, int own, int other) {
        if (own == 1) {
            return other == 1 ? -lose : sits;
        }
        return other == 1 ? bows : 0;
    }

    /** What has been fed and not yet been read. */
    private static final class Tape {
        static final int SIZE = 1000;

        final char[] signs = new char[SIZE];
        int length;

        void append(long bytes) {
            for (int shift = 56; shift >= 0; shift -= 8) {
                int sign = (int) (bytes >>> shift) & 255;
                boolean told = sign == 10 || sign >= 32 && sign <= 126;
                if (told && length < signs.length) {
                    signs[length] = (char) sign;
                    length++;
                }
            }
        }

        /** The sign at a place; 0 where there is none. */
        char signAt(int place) {
            return place >= 0 && place < length && place < signs.length ? signs[place] : 0;
        }

        /** What kind of token a sign belongs to. */
        int kindAt(int place) {
            if (place < 0 || place >= length || place >= signs.length) {
                return Tokens.AT_END;
            }
            char sign = signs[place];
            if (sign == 10 || sign == ' ') {
                return Tokens.BLANK;
            }
            if (sign >= 'a' && sign <= 'z') {
                return Tokens.WORD;
            }
            if (sign >= '0' && sign <= '9') {
                return Tokens.NUMBER;
            }
            return "()<=+-*;".indexOf(sign) >= 0 ? Tokens.SIGN : Tokens.STRANGE;
        }
    }

    /** The tape's tokens, one at a time, and the first fault among them. */
    private static final class Tokens {
        static final int AT_END = 0;
        static final int STRANGE = 1;
        static final int WORD = 2;
        static final int NUMBER = 3;
        static final int SIGN = 4;
        static final int BLANK = 5;

        final Tape tape = new Tape();
        int kind;
        int place;
        int end;
        int number;
        // The letters of a WORD in five bits each: eight of them fit, and no text need be made.
        long word;
        int fault;

        void begin() {
            fault = 0;
            end = 0;
            step();
        }

        boolean goesOn() {
            return fault == 0 && kind != AT_END;
        }

        void step() {
            place = end;
            while (place < tape.length && tape.kindAt(place) == BLANK) {
                place++;
            }
            kind = tape.kindAt(place);
            end = kind == AT_END ? place : place + 1;
            while ((kind == WORD || kind == NUMBER) && end < tape.length && tape.kindAt(end) == kind) {
                end++;
            }
            word = 0;
            number = 0;
            for (int i = place; i < end; i++) {
                if (kind == WORD) {
                    word = word << 5 | tape.signAt(i) - 'a' + 1;
                } else if (kind == NUMBER) {
                    number = number * 10 + tape.signAt(i) - '0';
                }
            }
            if (kind == WORD && end - place > 8 || kind == NUMBER && end - place > 4) {
                kind = STRANGE;
            }
        }

        /** Notes a fault of the token that stands here; false, so that a reader can leave by it. */
        boolean fail(int what) {
            if (fault == 0) {
                fault = what + 16 * place;
            }
            return false;
        }

        boolean is(String text) {
            if (kind != WORD || text.length() != end - place) {
                return false;
            }
            for (int i = 0; i < text.length(); i++) {
                if (tape.signAt(place + i) != text.charAt(i)) {
                    return false;
                }
            }
            return true;
        }

        boolean isSign(char sign) {
            return kind == SIGN && tape.signAt(place) == sign;
        }

        /** Steps over a WORD that must stand here. */
        boolean passes(String text) {
            if (!is(text)) {
                return fail(CANT_STAND);
            }
            step();
            return true;
        }

        /** Steps over a sign that must stand here. */
        boolean passesSign(char sign) {
            if (!isSign(sign)) {
                return fail(CANT_STAND);
            }
            step();
            return true;
        }

        boolean hasNumber(int least, int most) {
            if (kind != NUMBER) {
                return fail(CANT_STAND);
            }
            return number >= least && number <= most || fail(NOT_AS_TOLD);
        }

        boolean hasNewName(Hall hall) {
            if (!isName()) {
                return fail(CANT_STAND);
            }
            boolean told = hall.seatNamed(word) != NONE || hall.personNamed(word) != NONE;
            return !told || fail(TOLD_ALREADY);
        }

        boolean hasPerson(Hall hall) {
            if (!isName()) {
                return fail(CANT_STAND);
            }
            return hall.personNamed(word) != NONE || fail(NOT_TOLD);
        }

        boolean hasSeat(Hall hall) {
            if (!isName()) {
                return fail(CANT_STAND);
            }
            return hall.seatNamed(word) != NONE || fail(NOT_TOLD);
        }

        /** Facts are no more than other words here: a seat may be called by one. */
        private boolean isName() {
            return kind == WORD
                && !is("seat") && !is("row") && !is("at") && !is("person") && !is("nutmegs")
                && !is("foe") && !is("lasts") && !is("wears")
                && !is("lay") && !is("sit") && !is("rise") && !is("grate") && !is("hour")
                && !is("plain") && !is("lady") && !is("rasp") && !is("captain")
                && !is("not") && !is("and") && !is("or");
        }

        int personKind() {
            return is("plain") ? 0 : is("lady") ? LADY : is("rasp") ? RASP : is("captain") ? CAPTAIN : NONE;
        }

        int verb() {
            return is("lay") ? LAY : is("sit") ? SIT : is("rise") ? RISE
                : is("grate") ? GRATE : is("hour") ? HOUR : NONE;
        }
    }

    /** What an hour takes of a nutmeg: the E of wears, its operations behind their operands. */
    private static final class Law {
        // A NUMBER stands for itself, so all these are below 0.
        private static final int FRESH = -1;
        private static final int COMPANY = -2;
        private static final int RANK = -3;
        private static final int DATE = -4;
        private static final int NOT = -5;
        private static final int AND = -6;
        private static final int OR = -7;
        private static final int LESS = -8;
        private static final int EQUAL = -9;
        private static final int PLUS = -10;
        private static final int MINUS = -11;
        private static final int TIMES = -12;

        private static final int DEPTH = 5;

        // No token of a tape makes more than one operation.
        private final int[] code = new int[Tape.SIZE];
        // Four operands may wait on each of five levels, and one be at work.
        private final int[] stack = new int[32];
        private int length;

        void clear() {
            length = 0;
        }

        private void add(int operation) {
            if (length < code.length) {
                code[length] = operation;
                length++;
            }
        }

        boolean read(Tokens tokens) {
            length = 0;
            return readChoice(tokens, 0);
        }

        /** Reads an E that stands within so many of not and ( ). */
        private boolean readChoice(Tokens tokens, int depth) {
            boolean fine = readTest(tokens, depth);
            for (int i = 0; i < Tape.SIZE && fine && (tokens.is("and") || tokens.is("or")); i++) {
                int operation = tokens.is("and") ? AND : OR;
                tokens.step();
                fine = readTest(tokens, depth);
                add(operation);
            }
            return fine;
        }

        private boolean readTest(Tokens tokens, int depth) {
            boolean fine = readSum(tokens, depth);
            if (fine && (tokens.isSign('<') || tokens.isSign('='))) {
                int operation = tokens.isSign('<') ? LESS : EQUAL;
                tokens.step();
                fine = readSum(tokens, depth);
                add(operation);
            }
            return fine;
        }

        private boolean readSum(Tokens tokens, int depth) {
            boolean fine = readProduct(tokens, depth);
            for (int i = 0; i < Tape.SIZE && fine && (tokens.isSign('+') || tokens.isSign('-')); i++) {
                int operation = tokens.isSign('+') ? PLUS : MINUS;
                tokens.step();
                fine = readProduct(tokens, depth);
                add(operation);
            }
            return fine;
        }

        private boolean readProduct(Tokens tokens, int depth) {
            boolean fine = readPart(tokens, depth);
            for (int i = 0; i < Tape.SIZE && fine && tokens.isSign('*'); i++) {
                tokens.step();
                fine = readPart(tokens, depth);
                add(TIMES);
            }
            return fine;
        }

        private boolean readPart(Tokens tokens, int depth) {
            int nots = stepOverNots(tokens, depth);
            boolean fine = readBarePart(tokens, depth + nots);
            for (int i = 0; i < nots; i++) {
                add(NOT);
            }
            return fine;
        }

        /** Leaves a not that lies too deep where it is: it is wrong there. */
        private static int stepOverNots(Tokens tokens, int depth) {
            int nots = 0;
            while (depth + nots < DEPTH && tokens.is("not")) {
                tokens.step();
                nots++;
            }
            return nots;
        }

        private boolean readBarePart(Tokens tokens, int depth) {
            boolean opens = tokens.isSign('(');
            int operand = operandOf(tokens);
            if (!opens && operand == NOT && !tokens.is("not")) {
                return tokens.fail(CANT_STAND);
            }
            if (depth >= DEPTH) {
                return tokens.fail(TOO_MANY);
            }
            tokens.step();
            if (opens) {
                return readChoice(tokens, depth + 1) && tokens.passesSign(')');
            }
            add(operand);
            return true;
        }

        /** The NUMBER or the fact that stands here; NOT: neither of them. */
        private static int operandOf(Tokens tokens) {
            if (tokens.kind == Tokens.NUMBER) {
                return tokens.number;
            }
            return tokens.is("fresh") ? FRESH : tokens.is("company") ? COMPANY : tokens.is("rank") ? RANK
                : tokens.is("date") ? DATE : NOT;
        }

        /** How much less is left behind an hour that finds a nutmeg so. */
        int wear(int fresh, int company, int rank, int date) {
            if (length == 0) {
                return 1;
            }
            int top = 0;
            for (int i = 0; i < length && i < code.length; i++) {
                int operation = code[i];
                if (operation > NOT) {
                    if (top < stack.length) {
                        stack[top] = operandValue(operation, fresh, company, rank, date);
                        top++;
                    }
                } else if (operation == NOT) {
                    if (top >= 1) {
                        stack[top - 1] = stack[top - 1] == 0 ? 1 : 0;
                    }
                } else if (top >= 2) {
                    top--;
                    stack[top - 1] = joined(operation, stack[top - 1], stack[top]);
                }
            }
            return Math.max(0, Math.min(9, stack[0]));
        }

        private static int operandValue(int operand, int fresh, int company, int rank, int date) {
            switch (operand) {
                case FRESH:
                    return fresh;
                case COMPANY:
                    return company;
                case RANK:
                    return rank;
                case DATE:
                    return date;
                default:
                    return operand;
            }
        }

        private static int joined(int operation, int a, int b) {
            switch (operation) {
                case AND:
                    return a != 0 && b != 0 ? 1 : 0;
                case OR:
                    return a != 0 || b != 0 ? 1 : 0;
                case LESS:
                    return a < b ? 1 : 0;
                case EQUAL:
                    return a == b ? 1 : 0;
                case PLUS:
                    return a + b;
                case MINUS:
                    return a - b;
                default:
                    return a * b;
            }
        }
    }

    /** A hall as it was told. Sets of seats and of persons are bits here and all through. */
    private static final class Hall {
        final long[] seatNames = new long[SEATS];
        final int[] rows = new int[SEATS];
        final int[] ats = new int[SEATS];
        final int[] near = new int[SEATS];
        final long[] personNames = new long[PERSONS];
        final int[] kinds = new int[PERSONS];
        final int[] told = new int[PERSONS];
        final int[] foes = new int[PERSONS];
        final Law law = new Law();
        int seats;
        int persons;
        int lasts = 6;

        void clear() {
            seats = 0;
            persons = 0;
            lasts = 6;
            law.clear();
        }

        boolean isSeat(int seat) {
            return seat >= 0 && seat < seats && seat < SEATS;
        }

        boolean isPerson(int person) {
            return person >= 0 && person < persons && person < PERSONS;
        }

        int allSeats() {
            return (1 << seats) - 1;
        }

        int seatNamed(long name) {
            for (int seat = 0; seat < seats; seat++) {
                if (seatNames[seat] == name) {
                    return seat;
                }
            }
            return NONE;
        }

        int personNamed(long name) {
            for (int person = 0; person < persons; person++) {
                if (personNames[person] == name) {
                    return person;
                }
            }
            return NONE;
        }

        boolean hasSeatAt(int row, int at) {
            for (int seat = 0; seat < seats; seat++) {
                if (rows[seat] == row && ats[seat] == at) {
                    return true;
                }
            }
            return false;
        }

        void addSeat(long name, int row, int at) {
            if (seats >= SEATS) {
                return;
            }
            seatNames[seats] = name;
            rows[seats] = row;
            ats[seats] = at;
            near[seats] = 0;
            for (int other = 0; other < seats; other++) {
                // One step in all, along the row or across the rows.
                if (Math.abs(rows[other] - row) + Math.abs(ats[other] - at) == 1) {
                    near[other] |= 1 << seats;
                    near[seats] |= 1 << other;
                }
            }
            seats++;
        }

        void addPerson(long name, int kind, int nutmegs) {
            if (persons >= PERSONS) {
                return;
            }
            personNames[persons] = name;
            kinds[persons] = kind;
            told[persons] = nutmegs;
            foes[persons] = 0;
            persons++;
        }

        void addFoes(int one, int other) {
            if (isPerson(one) && isPerson(other)) {
                foes[one] |= 1 << other;
                foes[other] |= 1 << one;
            }
        }

        int nearTo(int seat) {
            return isSeat(seat) ? near[seat] : 0;
        }

        int nearAny(int set) {
            int found = 0;
            for (int seat = 0; seat < seats; seat++) {
                if ((set >> seat & 1) != 0) {
                    found |= near[seat];
                }
            }
            return found;
        }

        /** The seats, all of one set, that hang together with a seat of it. */
        int blockOf(int seat, int set) {
            int block = 1 << seat;
            for (int steps = 1; steps < seats; steps++) {
                block |= nearAny(block) & set;
            }
            return block;
        }

        int foesOf(int person) {
            return isPerson(person) ? foes[person] : 0;
        }

        boolean isCaptain(int person) {
            return isPerson(person) && kinds[person] == CAPTAIN;
        }

        int lifeOf(int person) {
            if (!isPerson(person)) {
                return 0;
            }
            switch (kinds[person]) {
                case LADY:
                    return 2 * lasts;
                case RASP:
                    return (lasts + 1) / 2;
                case CAPTAIN:
                    return 99;
                default:
                    return lasts;
            }
        }

        int raspedBy(int person) {
            if (!isPerson(person)) {
                return 0;
            }
            return kinds[person] == RASP ? 5 : kinds[person] == LADY ? 1 : 3;
        }
    }

    /** Reads a hall from the tape. */
    private static final class HallReader {
        private boolean lastsTold;
        private boolean wearsTold;

        /** Fills the hall: 0, or the fault. */
        int read(Tokens tokens, Hall hall) {
            hall.clear();
            lastsTold = false;
            wearsTold = false;
            tokens.begin();
            boolean fine = true;
            for (int i = 0; i < Tape.SIZE && fine && tokens.goesOn(); i++) {
                fine = readLine(tokens, hall) && tokens.passesSign(';');
            }
            return tokens.fault;
        }

        private boolean readLine(Tokens tokens, Hall hall) {
            if (tokens.is("seat")) {
                return readSeat(tokens, hall);
            }
            if (tokens.is("person")) {
                return readPerson(tokens, hall);
            }
            if (tokens.is("foe")) {
                return readFoe(tokens, hall);
            }
            if (tokens.is("lasts")) {
                return readLasts(tokens, hall);
            }
            if (!tokens.is("wears")) {
                return tokens.fail(CANT_STAND);
            }
            if (wearsTold) {
                return tokens.fail(TOLD_ALREADY);
            }
            wearsTold = true;
            tokens.step();
            return hall.law.read(tokens);
        }

        private boolean readSeat(Tokens tokens, Hall hall) {
            if (hall.seats >= SEATS) {
                return tokens.fail(TOO_MANY);
            }
            tokens.step();
            if (!tokens.hasNewName(hall)) {
                return false;
            }
            long name = tokens.word;
            tokens.step();
            if (!tokens.passes("row") || !tokens.hasNumber(0, 4)) {
                return false;
            }
            int row = tokens.number;
            tokens.step();
            if (!tokens.passes("at") || !tokens.hasNumber(0, 9)) {
                return false;
            }
            int at = tokens.number;
            if (hall.hasSeatAt(row, at)) {
                return tokens.fail(TOLD_ALREADY);
            }
            tokens.step();
            hall.addSeat(name, row, at);
            return true;
        }

        private boolean readPerson(Tokens tokens, Hall hall) {
            if (hall.persons >= PERSONS) {
                return tokens.fail(TOO_MANY);
            }
            tokens.step();
            if (!tokens.hasNewName(hall)) {
                return false;
            }
            long name = tokens.word;
            tokens.step();
            int kind = tokens.personKind();
            if (kind == NONE) {
                return tokens.fail(CANT_STAND);
            }
            tokens.step();
            if (!tokens.passes("nutmegs") || !tokens.hasNumber(0, 9)) {
                return false;
            }
            hall.addPerson(name, kind, tokens.number);
            tokens.step();
            return true;
        }

        private boolean readFoe(Tokens tokens, Hall hall) {
            tokens.step();
            if (!tokens.hasPerson(hall)) {
                return false;
            }
            int one = hall.personNamed(tokens.word);
            tokens.step();
            if (!tokens.hasPerson(hall)) {
                return false;
            }
            int other = hall.personNamed(tokens.word);
            if (one == other || (hall.foesOf(one) >> other & 1) != 0) {
                return tokens.fail(TOLD_ALREADY);
            }
            tokens.step();
            hall.addFoes(one, other);
            return true;
        }

        private boolean readLasts(Tokens tokens, Hall hall) {
            if (lastsTold) {
                return tokens.fail(TOLD_ALREADY);
            }
            lastsTold = true;
            tokens.step();
            if (!tokens.hasNumber(1, 30)) {
                return false;
            }
            hall.lasts = tokens.number;
            tokens.step();
            return true;
        }
    }

    /** The told lines of an evening. */
    private static final class Evening {
        private static final int LINES = 40;

        final int[] verbs = new int[LINES];
        final int[] persons = new int[LINES];
        final int[] seats = new int[LINES];
        int lines;

        /** Takes the tape's lines: 0, or the fault. */
        int read(Tokens tokens, Hall hall) {
            lines = 0;
            tokens.begin();
            boolean fine = true;
            for (int i = 0; i <= LINES && fine && tokens.goesOn(); i++) {
                fine = readLine(tokens, hall);
            }
            return tokens.fault;
        }

        private boolean readLine(Tokens tokens, Hall hall) {
            int verb = tokens.verb();
            if (verb == NONE) {
                return tokens.fail(CANT_STAND);
            }
            if (lines >= LINES) {
                return tokens.fail(TOO_MANY);
            }
            tokens.step();
            int person = NONE;
            int seat = NONE;
            if (verb != HOUR) {
                if (!tokens.hasPerson(hall)) {
                    return false;
                }
                person = hall.personNamed(tokens.word);
                tokens.step();
            }
            if (verb != HOUR && verb != RISE) {
                if (!tokens.hasSeat(hall)) {
                    return false;
                }
                seat = hall.seatNamed(tokens.word);
                tokens.step();
            }
            add(verb, person, seat);
            return tokens.passesSign(';');
        }

        private void add(int verb, int person, int seat) {
            if (lines < LINES) {
                verbs[lines] = verb;
                persons[lines] = person;
                seats[lines] = seat;
                lines++;
            }
        }
    }

    /** Who sits and what lies where, and the hour: all that undoing brings back. */
    private static final class Scene {
        // By seat: whose nutmeg lies there, how much is left of it (0: none), who sits there.
        final int[] owner = new int[SEATS];
        final int[] fresh = new int[SEATS];
        final int[] sitter = new int[SEATS];
        // By person: nutmegs in the pocket, the seat they sit on.
        final int[] pocket = new int[PERSONS];
        final int[] chair = new int[PERSONS];
        int date;
        private final int[] loss = new int[SEATS];

        Scene() {
            Arrays.fill(owner, NONE);
            Arrays.fill(sitter, NONE);
            Arrays.fill(chair, NONE);
        }

        /** All as the hall was told: nobody sits and nothing lies. */
        void begin(Hall hall) {
            Arrays.fill(owner, NONE);
            Arrays.fill(fresh, 0);
            Arrays.fill(sitter, NONE);
            Arrays.fill(chair, NONE);
            for (int person = 0; person < PERSONS; person++) {
                pocket[person] = person < hall.persons ? hall.told[person] : 0;
            }
            date = 0;
        }

        void copy(Scene other) {
            for (int seat = 0; seat < SEATS; seat++) {
                owner[seat] = other.owner[seat];
                fresh[seat] = other.fresh[seat];
                sitter[seat] = other.sitter[seat];
            }
            for (int person = 0; person < PERSONS; person++) {
                pocket[person] = other.pocket[person];
                chair[person] = other.chair[person];
            }
            date = other.date;
        }

        boolean isHeld(int seat) {
            return seat >= 0 && seat < SEATS && owner[seat] != NONE;
        }

        boolean isFree(int seat) {
            return seat >= 0 && seat < SEATS && owner[seat] == NONE && sitter[seat] == NONE;
        }

        int freshOn(int seat) {
            return seat >= 0 && seat < SEATS ? fresh[seat] : 0;
        }

        int pocketOf(int person) {
            return person >= 0 && person < PERSONS ? pocket[person] : 0;
        }

        int chairOf(int person) {
            return person >= 0 && person < PERSONS ? chair[person] : NONE;
        }

        int freeSeats(Hall hall) {
            int set = 0;
            for (int seat = 0; seat < hall.seats; seat++) {
                if (isFree(seat)) {
                    set |= 1 << seat;
                }
            }
            return set;
        }

        int heldSeats() {
            int set = 0;
            for (int seat = 0; seat < SEATS; seat++) {
                if (owner[seat] != NONE) {
                    set |= 1 << seat;
                }
            }
            return set;
        }

        int laidBy(int person) {
            int set = 0;
            for (int seat = 0; seat < SEATS; seat++) {
                if (owner[seat] == person) {
                    set |= 1 << seat;
                }
            }
            return set;
        }

        int nutmegsOf(int person) {
            return pocketOf(person) + Integer.bitCount(laidBy(person));
        }

        int inPockets() {
            int sum = 0;
            for (int person = 0; person < PERSONS; person++) {
                sum += pocket[person];
            }
            return sum;
        }

        /** The persons who sit on a seat of the set. */
        int sittersOn(int set) {
            int persons = 0;
            for (int seat = 0; seat < SEATS; seat++) {
                if ((set >> seat & 1) != 0 && sitter[seat] != NONE) {
                    persons |= 1 << sitter[seat];
                }
            }
            return persons;
        }

        /** The persons of whom a nutmeg lies on a seat of the set. */
        int ownersOn(int set) {
            int persons = 0;
            for (int seat = 0; seat < SEATS; seat++) {
                if ((set >> seat & 1) != 0 && owner[seat] != NONE) {
                    persons |= 1 << owner[seat];
                }
            }
            return persons;
        }

        /** The seats on which a person, were they standing, could sit down. */
        int couldSitOn(Hall hall, int person) {
            int set = 0;
            for (int seat = 0; seat < hall.seats; seat++) {
                if (sitter[seat] == NONE && (owner[seat] == NONE || owner[seat] == person)) {
                    set |= 1 << seat;
                }
            }
            return set;
        }

        boolean canBe(Hall hall, int verb, int person, int seat) {
            if (verb == HOUR) {
                return true;
            }
            if (!hall.isPerson(person) || verb != RISE && !hall.isSeat(seat)) {
                return false;
            }
            switch (verb) {
                case LAY:
                    return pocket[person] > 0 && isFree(seat);
                case SIT:
                    return chair[person] == NONE && (couldSitOn(hall, person) >> seat & 1) != 0;
                case RISE:
                    return chair[person] != NONE;
                default:
                    return owner[seat] != NONE && (hall.foesOf(person) >> owner[seat] & 1) != 0
                        && (hall.nearTo(chair[person]) >> seat & 1) != 0;
            }
        }

        /** Does what can be: the seats whose nutmeg is gone by it; NONE: it can't be. */
        int act(Hall hall, int verb, int person, int seat) {
            if (!canBe(hall, verb, person, seat)) {
                return NONE;
            }
            switch (verb) {
                case LAY:
                    pocket[person]--;
                    put(hall, person, seat);
                    return 0;
                case SIT:
                    sitDown(person, seat);
                    return 0;
                case RISE:
                    riseUp(person);
                    return 0;
                case GRATE:
                    return lessen(seat, hall.raspedBy(person));
                default:
                    return passHour(hall, 0);
            }
        }

        private void riseUp(int person) {
            int seat = chair[person];
            if (seat >= 0 && seat < SEATS) {
                sitter[seat] = NONE;
            }
            chair[person] = NONE;
        }

        private void sitDown(int person, int seat) {
            if (owner[seat] == person) {
                pocket[person]++;
                takeAway(seat);
            }
            sitter[seat] = person;
            chair[person] = seat;
        }

        /** Lays a whole nutmeg, from no pocket. */
        void put(Hall hall, int person, int seat) {
            if (seat >= 0 && seat < SEATS) {
                owner[seat] = person;
                fresh[seat] = hall.lifeOf(person);
            }
        }

        private void takeAway(int seat) {
            owner[seat] = NONE;
            fresh[seat] = 0;
        }

        /** Takes some of what lies on a seat: the seat, if it is gone by that. */
        private int lessen(int seat, int by) {
            fresh[seat] -= by;
            if (fresh[seat] > 0) {
                return 0;
            }
            takeAway(seat);
            return 1 << seat;
        }

        /** The hour goes by with a draught that takes so much besides: the seats whose nutmeg is gone. */
        int passHour(Hall hall, int draught) {
            int held = heldSeats();
            // All losses are found before the first one is taken, for they look at one another.
            for (int seat = 0; seat < hall.seats; seat++) {
                boolean wears = owner[seat] != NONE && !hall.isCaptain(owner[seat]);
                int company = Integer.bitCount(hall.near[seat] & held);
                loss[seat] = wears ? draught + hall.law.wear(fresh[seat], company, hall.rows[seat], date) : 0;
            }
            int gone = 0;
            for (int seat = 0; seat < hall.seats; seat++) {
                if (owner[seat] != NONE) {
                    gone |= lessen(seat, loss[seat]);
                }
            }
            date++;
            return gone;
        }
    }

    /** What can be undone, and the marks. */
    private static final class Past {
        private static final int STEPS = 16;

        private final Scene[] steps = new Scene[STEPS];
        private final Scene[] markScenes = new Scene[MARKS];
        private final Seen[] markSeen = new Seen[MARKS];
        private final boolean[] marked = new boolean[MARKS];
        // Where the next one goes: behind the last place comes the first one again.
        private int next;
        int held;

        Past() {
            for (int i = 0; i < STEPS; i++) {
                steps[i] = new Scene();
            }
            for (int i = 0; i < MARKS; i++) {
                markScenes[i] = new Scene();
                markSeen[i] = new Seen();
            }
        }

        void forget() {
            held = 0;
            for (int i = 0; i < MARKS; i++) {
                marked[i] = false;
            }
        }

        void keep(Scene scene) {
            if (next < 0 || next >= STEPS) {
                return;
            }
            steps[next].copy(scene);
            next = next + 1 == STEPS ? 0 : next + 1;
            held = Math.min(STEPS, held + 1);
        }

        boolean undoInto(Scene scene) {
            if (held == 0) {
                return false;
            }
            next = next == 0 ? STEPS - 1 : next - 1;
            held--;
            if (next >= 0 && next < STEPS) {
                scene.copy(steps[next]);
            }
            return true;
        }

        void layMark(int mark, Scene scene, Seen seen) {
            if (mark >= 0 && mark < MARKS) {
                markScenes[mark].copy(scene);
                markSeen[mark].copy(seen);
                marked[mark] = true;
            }
        }

        boolean goBackTo(int mark, Scene scene, Seen seen) {
            if (mark < 0 || mark >= MARKS || !marked[mark]) {
                return false;
            }
            scene.copy(markScenes[mark]);
            seen.copy(markSeen[mark]);
            held = 0;
            return true;
        }
    }

    /** What was seen of the nutmeg of somebody unknown. */
    private static final class Seen {
        private static final int SIGHTS = 8;

        final int[] seats = new int[SIGHTS];
        final int[] hours = new int[SIGHTS];
        final boolean[] lies = new boolean[SIGHTS];
        int count;

        boolean add(int seat, int hoursBehind, boolean liesStill) {
            if (count >= SIGHTS) {
                return false;
            }
            seats[count] = seat;
            hours[count] = hoursBehind;
            lies[count] = liesStill;
            count++;
            return true;
        }

        void copy(Seen other) {
            for (int i = 0; i < SIGHTS; i++) {
                seats[i] = other.seats[i];
                hours[i] = other.hours[i];
                lies[i] = other.lies[i];
            }
            count = other.count;
        }
    }

    /** What comes of a scene, found by playing a copy of it. */
    private static final class Ahead {
        private static final int FAR_OFF = 99;
        private static final int LONGEST = 60;

        private final Scene play = new Scene();
        // By person and seat: the hour by which what they lay there now is gone.
        private final int[][] goneBy = new int[PERSONS][SEATS];

        /** The hour behind which what lies on one of these seats is gone for the first time. */
        int hoursTillGone(Hall hall, Scene now, int set) {
            play.copy(now);
            return playTillGone(hall, set, FAR_OFF);
        }

        private int playTillGone(Hall hall, int set, int most) {
            for (int hour = 1; hour <= most; hour++) {
                if ((play.passHour(hall, 0) & set) != 0) {
                    return hour;
                }
            }
            return NONE;
        }

        int freshLater(Hall hall, Scene now, int seat, int hours) {
            play.copy(now);
            for (int hour = 1; hour <= hours; hour++) {
                play.passHour(hall, 0);
            }
            return play.freshOn(seat);
        }

        int firstGone(Hall hall, Scene now) {
            play.copy(now);
            for (int hour = 1; hour <= FAR_OFF; hour++) {
                int gone = play.passHour(hall, 0);
                for (int seat = 0; seat < hall.seats; seat++) {
                    if ((gone >> seat & 1) != 0) {
                        return seat;
                    }
                }
            }
            return NONE;
        }

        int hoursTillEmpty(Hall hall, Scene now) {
            play.copy(now);
            for (int hour = 0; hour <= FAR_OFF; hour++) {
                if (play.heldSeats() == 0) {
                    return hour;
                }
                play.passHour(hall, 0);
            }
            return NONE;
        }

        /** How many nutmegs of a person hold all these seats for so long, laid again as they go. */
        int nutmegsFor(Hall hall, Scene now, int person, int set, int hours) {
            play.copy(now);
            putOn(hall, person, set);
            int used = Integer.bitCount(set);
            for (int hour = 1; hour < hours; hour++) {
                int gone = play.passHour(hall, 0) & set;
                putOn(hall, person, gone);
                used += Integer.bitCount(gone);
            }
            return used;
        }

        private void putOn(Hall hall, int person, int set) {
            for (int seat = 0; seat < hall.seats; seat++) {
                if ((set >> seat & 1) != 0) {
                    play.put(hall, person, seat);
                }
            }
        }

        int mostKept(Hall hall, Scene now, int person, int hours) {
            int free = now.freeSeats(hall);
            int pocket = now.pocketOf(person);
            int best = 0;
            for (int set = 1; set <= hall.allSeats(); set++) {
                int size = Integer.bitCount(set);
                boolean promising = (set & ~free) == 0 && size > Integer.bitCount(best) && size <= pocket;
                if (promising && nutmegsFor(hall, now, person, set, hours) <= pocket) {
                    best = set;
                }
            }
            return best;
        }

        /** The hour by which what a person lays on a free seat now is gone; beyond the most: not by that. */
        private int hourItIsGone(Hall hall, Scene now, int person, int seat, int most) {
            play.copy(now);
            play.put(hall, person, seat);
            int hour = playTillGone(hall, 1 << seat, most);
            return hour == NONE ? most + 1 : hour;
        }

        int whoFits(Hall hall, Scene now, Seen seen) {
            int set = 0;
            for (int person = 0; person < hall.persons; person++) {
                boolean fits = true;
                for (int i = 0; i < seen.count && fits; i++) {
                    int seat = seen.seats[i];
                    int hours = seen.hours[i];
                    boolean lies = now.isFree(seat) && hourItIsGone(hall, now, person, seat, hours) > hours;
                    fits = lies == seen.lies[i];
                }
                if (fits) {
                    set |= 1 << person;
                }
            }
            return set;
        }

        int bestQuestion(Hall hall, Scene now, Seen seen) {
            int who = whoFits(hall, now, seen);
            int free = now.freeSeats(hall);
            findGone(hall, now, who, free);
            int all = Integer.bitCount(who);
            int best = all;
            int question = NONE;
            for (int hours = 1; hours <= LONGEST; hours++) {
                for (int seat = 0; seat < hall.seats; seat++) {
                    int lying = (free >> seat & 1) != 0 ? countLying(hall, who, seat, hours) : all;
                    int greater = Math.max(lying, all - lying);
                    if (greater < best) {
                        best = greater;
                        question = 8 * hours + seat;
                    }
                }
            }
            return question;
        }

        private void findGone(Hall hall, Scene now, int who, int free) {
            for (int person = 0; person < hall.persons; person++) {
                for (int seat = 0; seat < hall.seats; seat++) {
                    boolean asked = (who >> person & 1) != 0 && (free >> seat & 1) != 0;
                    goneBy[person][seat] = asked ? hourItIsGone(hall, now, person, seat, LONGEST) : 0;
                }
            }
        }

        private int countLying(Hall hall, int who, int seat, int hours) {
            int lying = 0;
            for (int person = 0; person < hall.persons; person++) {
                if ((who >> person & 1) != 0 && goneBy[person][seat] > hours) {
                    lying++;
                }
            }
            return lying;
        }

        int millionthsGone(Hall hall, Scene now, int seat, int hours, int odds) {
            int millionths = 0;
            for (int draughts = 0; draughts < 1 << hours; draughts++) {
                if (isGoneBy(hall, now, seat, hours, draughts)) {
                    millionths += weightOf(hours, odds, draughts);
                }
            }
            return millionths;
        }

        private boolean isGoneBy(Hall hall, Scene now, int seat, int hours, int draughts) {
            play.copy(now);
            int gone = 0;
            for (int hour = 0; hour < hours; hour++) {
                gone |= play.passHour(hall, (draughts >> hour & 1) != 0 ? 2 : 0);
            }
            return (gone >> seat & 1) != 0;
        }

        /** Six tenths multiplied are millionths: hours that are not asked for count ten of ten. */
        private static int weightOf(int hours, int odds, int draughts) {
            int weight = 1;
            for (int hour = 0; hour < 6; hour++) {
                boolean draught = (draughts >> hour & 1) != 0;
                weight *= hour >= hours ? 10 : draught ? odds : 10 - odds;
            }
            return weight;
        }

        int season(Hall hall, Scene now, int seed, int hours, int what) {
            play.copy(now);
            boolean peopled = hall.persons > 0 && hall.seats > 0;
            long g = seed;
            int gone = 0;
            for (int hour = 0; hour < hours; hour++) {
                if (peopled) {
                    g = drawn(g);
                    int person = below(g, hall.persons);
                    g = drawn(g);
                    int seat = below(g, hall.seats);
                    g = drawn(g);
                    gone += goneByDeed(hall, below(g, 5), person, seat);
                }
                gone += Integer.bitCount(play.passHour(hall, 0));
            }
            if (what == 0) {
                return gone;
            }
            return what == 1 ? play.sittersOn(hall.allSeats()) : play.inPockets() + Integer.bitCount(play.heldSeats());
        }

        private int goneByDeed(Hall hall, int deed, int person, int seat) {
            if (deed > GRATE || !play.canBe(hall, deed, person, seat)) {
                return 0;
            }
            return Integer.bitCount(play.act(hall, deed, person, seat));
        }

        private static long drawn(long g) {
            return (g * 1103515245L + 12345L) % 2147483648L;
        }

        private static int below(long g, int bound) {
            return bound <= 0 ? 0 : (int) (g / 65536L % bound);
        }

        int verdict(Hall hall, Evening evening, int what) {
            play.begin(hall);
            int cannotBe = NONE;
            int takesOne = NONE;
            for (int line = 0; line < evening.lines; line++) {
                int gone = play.act(hall, evening.verbs[line], evening.persons[line], evening.seats[line]);
                if (gone == NONE && cannotBe == NONE) {
                    cannotBe = line;
                }
                if (gone > 0 && takesOne == NONE) {
                    takesOne = line;
                }
            }
            if (what == 0) {
                return cannotBe;
            }
            return what == 1 ? takesOne : Integer.bitCount(play.sittersOn(hall.allSeats()));
        }
    }

    /** Rows of seats by persons, tried from the first one on: so the first of the best is met first. */
    private static final class Sittings {
        private final int[] row = new int[PERSONS];
        private final int[] best = new int[PERSONS];
        private int count;

        int chairOf(int person) {
            return person >= 0 && person < PERSONS ? best[person] : NONE;
        }

        private void keepRow() {
            for (int person = 0; person < PERSONS; person++) {
                best[person] = row[person];
            }
        }

        int findMost(Hall hall, Scene now) {
            count = NONE;
            seatFrom(this, hall, now, 0, 0, 0);
            return count;
        }

        private static void seatFrom(Sittings tried, Hall hall, Scene now, int person, int taken, int sitting) {
            if (sitting + hall.persons - person <= tried.count) {
                return;
            }
            if (person >= hall.persons || person >= PERSONS) {
                tried.count = sitting;
                tried.keepRow();
                return;
            }
            int open = now.chair[person] == NONE ? now.couldSitOn(hall, person) & ~taken : 0;
            for (int seat = 0; seat < hall.seats; seat++) {
                if ((open >> seat & 1) != 0) {
                    tried.row[person] = seat;
                    seatFrom(tried, hall, now, person + 1, taken | 1 << seat, sitting + 1);
                }
            }
            tried.row[person] = NONE;
            seatFrom(tried, hall, now, person + 1, taken, sitting);
        }

        int findPlaced(Hall hall) {
            count = 0;
            placeFrom(this, hall, 0, 0);
            return count;
        }

        private static void placeFrom(Sittings tried, Hall hall, int person, int taken) {
            if (person >= hall.persons || person >= PERSONS) {
                if (tried.count == 0) {
                    tried.keepRow();
                }
                tried.count++;
                return;
            }
            int shut = taken | hall.nearAny(tried.chairsOfFoes(hall, person));
            for (int seat = 0; seat < hall.seats; seat++) {
                if ((shut >> seat & 1) == 0) {
                    tried.row[person] = seat;
                    placeFrom(tried, hall, person + 1, taken | 1 << seat);
                }
            }
        }

        /** The seats of those placed so far who are foes of the next one. */
        private int chairsOfFoes(Hall hall, int person) {
            int set = 0;
            for (int other = 0; other < person; other++) {
                if ((hall.foesOf(person) >> other & 1) != 0) {
                    set |= 1 << row[other];
                }
            }
            return set;
        }
    }
}
