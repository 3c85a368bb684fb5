import java.util.Arrays;

/** A church with pews on two sides, into which guests are led by a law that is told as a text. */
public final class WeddingPews {
    public static final int NONE = -1;

    private static final int SIDES = 2;
    private static final int ROWS = 8;
    private static final int PLACES = 9;
    private static final int PEWS = SIDES * ROWS;
    private static final int SIDE_SEATS = ROWS * PLACES;
    private static final int SEATS = SIDES * SIDE_SEATS;
    private static final int FAMILIES = 16;
    private static final int MOST_IN_LINE = 200;
    /** What the document answers where it is asked of nobody, of no seat or of no pew. */
    private static final int NOBODY = -2;
    private static final int NOBODY_OF_IT_SITS = -3;
    private static final int NOT_TRIED = -1000;

    private final Tape tape = new Tape();
    private final Text text = new Text(tape);
    private final Church church = new Church();
    private final Church keptChurch = new Church();
    /** Where a call does what may not stay: guests are only tried, moves may have a fault. */
    private final Church trialChurch = new Church();
    private final LawReader lawReader = new LawReader(text);
    private final ListReader listReader = new ListReader(text);
    private final MovesReader movesReader = new MovesReader(text);
    private final Usher usher = new Usher();
    private final Looks looks = new Looks();
    private final Sums sums = new Sums(tape);
    private Law inForce = new Law();
    /** A new law is read into this one, so that a fault leaves the one in force as it was. */
    private Law draft = new Law();
    private boolean isKept = false;

    public WeddingPews() {
    }

    public boolean coat(int seat, int family) {
        if (!isSeat(seat) || !isWithin(family, NONE, FAMILIES - 1)) {
            return false;
        }
        church.coats[seat] = family;
        return true;
    }

    public int feed(int a, int b, int c, int d, int e) {
        if (!tape.hasRoomForFive()) {
            return NONE;
        }
        tape.append(a);
        tape.append(b);
        tape.append(c);
        tape.append(d);
        tape.append(e);
        return tape.length;
    }

    public int law(int n) {
        if (!tape.holds(n, 1, 240)) {
            return NONE;
        }
        text.open(n);
        lawReader.readInto(draft);
        tape.clear();
        if (text.hasFault()) {
            return text.faultAnswer();
        }
        Law before = inForce;
        inForce = draft;
        draft = before;
        return inForce.rules;
    }

    public int list(int n) {
        if (!tape.holds(n, 1, 120)) {
            return NONE;
        }
        text.open(n);
        int added = listReader.readBehindLine(church);
        tape.clear();
        if (text.hasFault()) {
            return text.faultAnswer();
        }
        church.waiting += added;
        return added;
    }

    public int moves(int n) {
        if (!tape.holds(n, 1, 120)) {
            return NONE;
        }
        text.open(n);
        trialChurch.copyFrom(church);
        int lines = movesReader.readAndMove(trialChurch);
        tape.clear();
        if (text.hasFault()) {
            return text.faultAnswer();
        }
        church.copyFrom(trialChurch);
        return lines;
    }

    public int come(int n) {
        if (!isWithin(n, 1, MOST_IN_LINE)) {
            return NONE;
        }
        return usher.leadMany(church, inForce, n);
    }

    public int tried(int n, int what) {
        if (!isWithin(n, 1, MOST_IN_LINE) || !isWithin(what, 0, 4)) {
            return NOT_TRIED;
        }
        trialChurch.copyFrom(church);
        int climbs = usher.leadMany(trialChurch, inForce, n);
        switch (what) {
            case 0:
                return climbs;
            case 1:
                return trialChurch.standing - church.standing;
            case 2:
                return usher.lastSeat;
            case 3:
                return trialChurch.moreOnHers();
            default:
                return looks.tornFamilies(trialChurch);
        }
    }

    public int guestAt(int seat, int what) {
        if (!isSeat(seat) || !isWithin(what, 0, 6)) {
            return NONE;
        }
        int guest = church.guests[seat];
        if (guest == Guest.NOT_THERE) {
            return NOBODY;
        }
        switch (what) {
            case 0:
                return Guest.sideOf(guest);
            case 1:
                return Guest.familyOf(guest);
            case 2:
                return Guest.heightOf(guest);
            case 3:
                return Guest.childOf(guest);
            case 4:
                return Guest.singerOf(guest);
            case 5:
                return church.numbers[seat];
            default:
                return looks.view(church, seat);
        }
    }

    public int coatAt(int seat) {
        if (!isSeat(seat)) {
            return NONE;
        }
        return church.coats[seat] == NONE ? NOBODY : church.coats[seat];
    }

    public int pew(int side, int row, int what) {
        if (!isPew(side, row) || !isWithin(what, 0, 4)) {
            return NONE;
        }
        int pew = pewOf(side, row);
        switch (what) {
            case 0:
                return church.sittingIn(pew);
            case 1:
                return looks.familiesIn(church, pew);
            case 2:
                return looks.longestTaken(church, pew);
            case 3:
                return looks.longestOfOneFamily(church, pew);
            default:
                return looks.coatsLeftIn(church, pew);
        }
    }

    public int torn() {
        return looks.tornFamilies(church);
    }

    public int together(int family, int what) {
        if (!isWithin(family, 0, FAMILIES - 1) || !isWithin(what, 0, 1)) {
            return NONE;
        }
        return looks.gather(church, family, what);
    }

    public int seesNothing(int what) {
        if (!isWithin(what, 0, 1)) {
            return NONE;
        }
        return looks.blind(church, what);
    }

    public int even(int n, int hers, int his, int what) {
        if (!tape.holds(n, 1, Sums.MOST_FRIENDS) || !isWithin(hers, 0, 200)
                || !isWithin(his, 0, 200) || !isWithin(what, 0, 1)) {
            return NONE;
        }
        int answer = sums.balance(n, hers, his, what);
        tape.clear();
        return answer;
    }

    public int order(int side, int row, int what) {
        if (!isPew(side, row) || !isWithin(what, 0, 2)) {
            return NONE;
        }
        // Who comes from the wall on finds nobody between his seat and the aisle.
        return what == 0 ? 0 : looks.climbsAnew(church, pewOf(side, row), what == 2);
    }

    public int moreFit(int n, int what) {
        if (!tape.holds(n, 1, Sums.MOST_FITTING) || !isWithin(what, 0, 1)) {
            return NONE;
        }
        int answer = sums.fitFamilies(church, n, what);
        tape.clear();
        return answer;
    }

    public int fathers(int side, int apart, int what) {
        if (!isSide(side) || !isWithin(apart, 0, ROWS - 1) || !isWithin(what, 0, 2)) {
            return NONE;
        }
        return looks.seatTwo(church, side, apart, what);
    }

    public int singers(int what) {
        if (!isWithin(what, 0, 2)) {
            return NONE;
        }
        return looks.choir(church, what);
    }

    public int strangers(int what) {
        if (!isWithin(what, 0, 1)) {
            return NONE;
        }
        return looks.lonely(church, what);
    }

    public int inLine(int what) {
        if (!isWithin(what, 0, 5)) {
            return NONE;
        }
        return what == 5 ? looks.familiesWaiting(church) : looks.waitingLike(church, what);
    }

    public int edge(int what) {
        if (!isWithin(what, 0, 1)) {
            return NONE;
        }
        return looks.children(church, what == 0);
    }

    public int ushers(int n, int many, int what) {
        if (!tape.holds(n, 1, 20) || !isWithin(many, 1, Sums.MOST_USHERS)
                || what != Sums.ALL_LED && !isWithin(what, 0, n - 1)) {
            return NONE;
        }
        int answer = sums.leadInRow(n, many, what);
        tape.clear();
        return answer;
    }

    public int leastTime(int n, int many) {
        if (!tape.holds(n, 1, Sums.MOST_IN_ANY_ROW) || !isWithin(many, 1, Sums.MOST_USHERS)) {
            return NONE;
        }
        int answer = sums.leadInBestRow(n, many);
        tape.clear();
        return answer;
    }

    public int photo(int side) {
        if (!isSide(side)) {
            return NONE;
        }
        return looks.mostApart(church, side);
    }

    public int hats(int n, int what) {
        if (!tape.holds(n, 1, Sums.MOST_HATS) || !isWithin(what, 0, 2)) {
            return NONE;
        }
        int answer = sums.heightsInRow(n, what);
        tape.clear();
        return answer;
    }

    public boolean seed(int x) {
        if (!isWithin(x, 0, 65535)) {
            return false;
        }
        church.drawn = x;
        return true;
    }

    public int keep() {
        keptChurch.copyFrom(church);
        isKept = true;
        return church.arrived;
    }

    public boolean undo() {
        if (!isKept) {
            return false;
        }
        church.copyFrom(keptChurch);
        return true;
    }

    public int check(int side, int n) {
        if (!isSide(side) || !tape.holds(n, 0, ROWS)) {
            return NOBODY;
        }
        int wrong = firstWrongRow(side, n);
        tape.clear();
        return wrong;
    }

    public int count(int what) {
        if (isWithin(what, 10, 10 + FAMILIES - 1)) {
            return church.sittingOf(what - 10);
        }
        if (isWithin(what, 30, 30 + MOST_IN_LINE - 1)) {
            return what - 30 < church.waiting ? Guest.familyOf(church.line[what - 30]) : NONE;
        }
        switch (what) {
            case 0:
                return church.arrived;
            case 1:
                return church.waiting;
            case 2:
                return church.standing;
            case 3:
                return church.sittingOn(0) + church.sittingOn(1);
            case 4:
                return church.climbed;
            case 5:
                return church.sittingOn(0);
            case 6:
                return church.sittingOn(1);
            case 7:
                return inForce.rules;
            case 8:
                return tape.length;
            case 9:
                return church.drawn;
            default:
                return NONE;
        }
    }

    private int firstWrongRow(int side, int rows) {
        for (int row = 0; row < rows; row++) {
            if (church.sittingIn(pewOf(side, row)) != tape.byteAt(row)) {
                return row;
            }
        }
        return NONE;
    }

    private static boolean isWithin(int value, int least, int most) {
        return value >= least && value <= most;
    }

    private static boolean isSeat(int seat) {
        return isWithin(seat, 0, SEATS - 1);
    }

    private static boolean isSide(int side) {
        return isWithin(side, 0, SIDES - 1);
    }

    private static boolean isPew(int side, int row) {
        return isSide(side) && isWithin(row, 0, ROWS - 1);
    }

    private static int pewOf(int side, int row) {
        return side * ROWS + row;
    }

    /** The bytes that calls are fed with before they read them as a text or as numbers. */
    private static final class Tape {
        private static final int MOST_BYTES = 260;
        private static final int BYTES_OF_FIVE = 20;

        private final int[] bytes = new int[MOST_BYTES];
        int length = 0;

        boolean hasRoomForFive() {
            return length + BYTES_OF_FIVE <= MOST_BYTES;
        }

        void append(int four) {
            for (int shift = 24; shift >= 0 && length < MOST_BYTES; shift -= 8) {
                bytes[length] = (four >>> shift) & 255;
                length++;
            }
        }

        boolean holds(int n, int least, int most) {
            return isWithin(n, least, most) && n <= length;
        }

        int byteAt(int place) {
            return place >= 0 && place < length ? bytes[place] : 0;
        }

        void clear() {
            length = 0;
        }
    }

    /** The first bytes of the tape, read from the left up to the first fault. */
    private static final class Text {
        static final int MOST_BYTES = 240;
        static final int CANT_STAND = 1;
        static final int DIGIT_TOO_MANY = 2;
        static final int SEAT_TOO_HIGH = 3;
        static final int TOO_MANY = 4;
        static final int TOO_DEEP = 5;
        static final int NOBODY_THERE = 7;
        static final int SOMEBODY_THERE = 8;
        private static final int END = -1;

        private final int[] bytes;
        private int end = 0;
        private int fault = 0;
        private int faultPlace = 0;
        /** Where it is read, and what stands there. */
        int place = 0;
        int sign = END;

        Text(Tape tape) {
            bytes = tape.bytes;
        }

        void open(int n) {
            end = Math.min(n, bytes.length);
            fault = 0;
            faultPlace = 0;
            place = 0;
            sign = end > 0 ? bytes[0] : END;
        }

        boolean hasFault() {
            return fault != 0;
        }

        int faultAnswer() {
            return -1000 * fault - faultPlace;
        }

        /** Behind the first fault there is no other. */
        void fail(int number, int where) {
            if (fault == 0) {
                fault = number;
                faultPlace = where;
            }
        }

        boolean isDigit() {
            return sign >= '0' && sign <= '9';
        }

        void skip() {
            if (place < end) {
                place++;
            }
            sign = place < end ? bytes[place] : END;
        }

        /** Skips this sign if it stands here. */
        boolean passes(char wanted) {
            if (hasFault() || sign != wanted) {
                return false;
            }
            skip();
            return true;
        }

        /** Skips this sign; it is a fault if it does not stand here. */
        boolean expects(char wanted) {
            if (hasFault() || sign != wanted) {
                fail(CANT_STAND, place);
                return false;
            }
            skip();
            return true;
        }

        /** Which of these signs stands here, or NONE. */
        int whichOf(String signs) {
            return hasFault() || sign == END ? NONE : signs.indexOf((char) sign);
        }

        /** Skips one of these signs, and answers which; NONE and a fault if none stands here. */
        int choose(String signs) {
            int which = whichOf(signs);
            if (which == NONE) {
                fail(CANT_STAND, place);
            } else {
                skip();
            }
            return which;
        }

        /** A number of one to so many digits; what it answers with a fault does not matter. */
        int number(int mostDigits) {
            if (!isDigit()) {
                fail(CANT_STAND, place);
            }
            int value = 0;
            for (int digits = 0; digits < mostDigits && isDigit(); digits++) {
                value = 10 * value + sign - '0';
                skip();
            }
            if (isDigit()) {
                fail(DIGIT_TOO_MANY, place);
            }
            return value;
        }

        void expectEnd() {
            if (place < end) {
                fail(CANT_STAND, place);
            }
        }
    }

    /** A guest is one int, so that hundreds of them take no objects. */
    private static final class Guest {
        static final int NOT_THERE = -1;

        static int of(int side, int family, int height, int child, int singer) {
            return side | family << 2 | height << 6 | child << 10 | singer << 11;
        }

        static int sideOf(int guest) {
            return guest & 3;
        }

        static int familyOf(int guest) {
            return guest >> 2 & 15;
        }

        static int heightOf(int guest) {
            return guest >> 6 & 15;
        }

        static int childOf(int guest) {
            return guest >> 10 & 1;
        }

        static int singerOf(int guest) {
            return guest >> 11 & 1;
        }
    }

    /** All that is kept and undone. The seats of pew p are 9 p to 9 p + 8, from the aisle on. */
    private static final class Church {
        final int[] guests = new int[SEATS];
        final int[] numbers = new int[SEATS];
        final int[] coats = new int[SEATS];
        final int[] line = new int[MOST_IN_LINE];
        int waiting = 0;
        int arrived = 0;
        int standing = 0;
        int climbed = 0;
        int drawn = 1;

        Church() {
            Arrays.fill(guests, Guest.NOT_THERE);
            Arrays.fill(coats, NONE);
        }

        void copyFrom(Church other) {
            System.arraycopy(other.guests, 0, guests, 0, SEATS);
            System.arraycopy(other.numbers, 0, numbers, 0, SEATS);
            System.arraycopy(other.coats, 0, coats, 0, SEATS);
            System.arraycopy(other.line, 0, line, 0, MOST_IN_LINE);
            waiting = other.waiting;
            arrived = other.arrived;
            standing = other.standing;
            climbed = other.climbed;
            drawn = other.drawn;
        }

        int draw() {
            drawn = (25173 * drawn + 13849) % 65536;
            return drawn % 10;
        }

        int guestOn(int seat) {
            return seat >= 0 && seat < SEATS ? guests[seat] : Guest.NOT_THERE;
        }

        int coatOn(int seat) {
            return seat >= 0 && seat < SEATS ? coats[seat] : NONE;
        }

        boolean isTaken(int seat) {
            return guestOn(seat) != Guest.NOT_THERE;
        }

        boolean isTakenBy(int seat, int family) {
            int guest = guestOn(seat);
            return guest != Guest.NOT_THERE && Guest.familyOf(guest) == family;
        }

        boolean isFreeFor(int seat, int family) {
            int coat = coatOn(seat);
            return guestOn(seat) == Guest.NOT_THERE && (coat == NONE || coat == family);
        }

        int nearestToAisle(int pew, int family) {
            for (int place = 0; place < PLACES; place++) {
                if (isFreeFor(pew * PLACES + place, family)) {
                    return pew * PLACES + place;
                }
            }
            return NONE;
        }

        int nearestToWall(int pew, int family) {
            for (int place = PLACES - 1; place >= 0; place--) {
                if (isFreeFor(pew * PLACES + place, family)) {
                    return pew * PLACES + place;
                }
            }
            return NONE;
        }

        private int sittingFrom(int first, int behind) {
            int many = 0;
            for (int seat = Math.max(0, first); seat < behind && seat < SEATS; seat++) {
                if (guests[seat] != Guest.NOT_THERE) {
                    many++;
                }
            }
            return many;
        }

        int sittingIn(int pew) {
            return sittingFrom(pew * PLACES, pew * PLACES + PLACES);
        }

        int sittingOn(int side) {
            return sittingFrom(side * SIDE_SEATS, side * SIDE_SEATS + SIDE_SEATS);
        }

        int sittingAisleward(int seat) {
            return sittingFrom(seat - seat % PLACES, seat);
        }

        int moreOnHers() {
            return sittingOn(0) - sittingOn(1);
        }

        int sittingOfIn(int family, int pew) {
            int many = 0;
            for (int place = 0; place < PLACES; place++) {
                if (isTakenBy(pew * PLACES + place, family)) {
                    many++;
                }
            }
            return many;
        }

        int sittingOf(int family) {
            int many = 0;
            for (int pew = 0; pew < PEWS; pew++) {
                many += sittingOfIn(family, pew);
            }
            return many;
        }

        int keptFor(int family, int pew) {
            int many = 0;
            for (int place = 0; place < PLACES; place++) {
                int seat = pew * PLACES + place;
                if (guestOn(seat) == Guest.NOT_THERE && coatOn(seat) == family) {
                    many++;
                }
            }
            return many;
        }

        void sitDown(int seat, int guest) {
            if (isSeat(seat)) {
                climbed += sittingAisleward(seat);
                guests[seat] = guest;
                numbers[seat] = arrived;
            }
        }

        void exchange(int seat, int other) {
            if (isSeat(seat) && isSeat(other)) {
                int guest = guests[seat];
                int number = numbers[seat];
                guests[seat] = guests[other];
                numbers[seat] = numbers[other];
                guests[other] = guest;
                numbers[other] = number;
            }
        }

        void sendBack(int seat) {
            if (isSeat(seat)) {
                guests[seat] = Guest.NOT_THERE;
                standing++;
            }
        }

        void leaveLine(int many) {
            if (many > 0 && many <= waiting && waiting <= MOST_IN_LINE) {
                waiting -= many;
                System.arraycopy(line, many, line, 0, waiting);
            }
        }
    }

    /**
     * The rules as steps for a small stack: an E leaves its number there, a C leaves 1 or 0. A part
     * of a C that does not matter is leapt over, always ahead.
     */
    private static final class Law {
        static final int E = 0;
        static final int Y = 1;
        static final int O = 2;
        static final int MOST_RULES = 16;
        static final int NUMBER = 0;
        static final int FACT = 1;
        static final int NOT = 2;
        static final int LEAP_IF_FALSE = 3;
        static final int LEAP_IF_TRUE = 4;
        /** From here on the deeds on two numbers; each row is that of the signs in the text. */
        static final int PLUS = 5;
        static final int MINUS = 6;
        static final int TIMES = 7;
        static final int OVER = 8;
        static final int MODULO = 9;
        static final int BELOW = 10;
        static final int ABOVE = 11;
        /** No step comes without a byte of the text. */
        private static final int MOST_STEPS = Text.MOST_BYTES;
        /** Six that are open in one another hold three numbers each at most. */
        private static final int MOST_STACKED = 32;

        private final int[] deeds = new int[MOST_STEPS];
        private final int[] values = new int[MOST_STEPS];
        private final int[] kinds = new int[MOST_RULES];
        /** Where a rule's E begins, where its C does, and where that ends. */
        private final int[] sumStarts = new int[MOST_RULES];
        private final int[] testStarts = new int[MOST_RULES];
        private final int[] testEnds = new int[MOST_RULES];
        private final int[] stack = new int[MOST_STACKED];
        private int steps = 0;
        int rules = 0;

        void clear() {
            steps = 0;
            rules = 0;
        }

        boolean isFull() {
            return rules >= MOST_RULES;
        }

        void openRule(int kind) {
            if (!isFull()) {
                kinds[rules] = kind;
                sumStarts[rules] = steps;
            }
        }

        void openTest() {
            if (!isFull()) {
                testStarts[rules] = steps;
            }
        }

        void closeRule() {
            if (!isFull()) {
                testEnds[rules] = steps;
                rules++;
            }
        }

        /** Answers the step's place, for a leap that lands later. */
        int add(int deed, int value) {
            if (steps >= MOST_STEPS) {
                return NONE;
            }
            deeds[steps] = deed;
            values[steps] = value;
            steps++;
            return steps - 1;
        }

        void landHere(int leap) {
            if (leap >= 0 && leap < steps) {
                values[leap] = steps;
            }
        }

        /** The E of the first rule of a kind whose C holds, within 0 and the bound. */
        int worth(int kind, int[] facts, int bound) {
            for (int rule = 0; rule < rules; rule++) {
                if (kinds[rule] == kind && reckon(testStarts[rule], testEnds[rule], facts) != 0) {
                    int worth = reckon(sumStarts[rule], testStarts[rule], facts);
                    return Math.max(0, Math.min(bound, worth));
                }
            }
            return 0;
        }

        boolean anyHolds(int kind, int[] facts) {
            for (int rule = 0; rule < rules; rule++) {
                if (kinds[rule] == kind && reckon(testStarts[rule], testEnds[rule], facts) != 0) {
                    return true;
                }
            }
            return false;
        }

        /** What divides by 0 answers 0: a C that does not hold, an E that is 0. */
        private int reckon(int from, int behind, int[] facts) {
            int high = 0;
            int step = from;
            for (int done = 0; done < MOST_STEPS && step < behind && step < MOST_STEPS; done++) {
                int deed = deeds[step];
                int value = values[step];
                step++;
                if (deed == NUMBER || deed == FACT) {
                    if (high >= MOST_STACKED
                            || deed == FACT && !isWithin(value, 0, facts.length - 1)) {
                        return 0;
                    }
                    stack[high] = deed == FACT ? facts[value] : value;
                    high++;
                } else if (deed >= PLUS) {
                    if (high < 2 || stack[high - 1] == 0 && (deed == OVER || deed == MODULO)) {
                        return 0;
                    }
                    high--;
                    stack[high - 1] = ofTwo(deed, stack[high - 1], stack[high]);
                } else if (high < 1) {
                    return 0;
                } else if (deed == NOT) {
                    stack[high - 1] = 1 - stack[high - 1];
                } else if ((stack[high - 1] != 0) == (deed == LEAP_IF_TRUE)) {
                    step = value;
                } else {
                    high--;
                }
            }
            return high > 0 ? stack[high - 1] : 0;
        }

        private static int ofTwo(int deed, int left, int right) {
            switch (deed) {
                case PLUS:
                    return left + right;
                case MINUS:
                    return left - right;
                case TIMES:
                    return left * right;
                case OVER:
                    return right == 0 ? 0 : left / right;
                case MODULO:
                    return right == 0 ? 0 : left % right;
                case BELOW:
                    return left < right ? 1 : 0;
                case ABOVE:
                    return left > right ? 1 : 0;
                default:
                    return left == right ? 1 : 0;
            }
        }
    }

    /** Reads a text as a law. Every depth is how many of ( [ ! are open, six at most. */
    private static final class LawReader {
        private static final int MOST_OPEN = 6;
        private static final int MOST_DIGITS = 5;

        private final Text text;

        LawReader(Text text) {
            this.text = text;
        }

        void readInto(Law draft) {
            draft.clear();
            readRule(draft);
            for (int more = 0; more < Text.MOST_BYTES && text.passes(';'); more++) {
                readRule(draft);
            }
            text.expectEnd();
        }

        private void readRule(Law draft) {
            if (draft.isFull() && text.whichOf("eyo") != NONE) {
                text.fail(Text.TOO_MANY, text.place);
            }
            int kind = text.choose("eyo");
            draft.openRule(kind);
            if (kind != Law.O) {
                readSum(draft, 0);
            }
            draft.openTest();
            if (text.expects('(')) {
                readAnyOf(draft, 1);
                text.expects(')');
            }
            draft.closeRule();
        }

        /** A part that holds leaps over the next one, and from there over the one behind it. */
        private void readAnyOf(Law draft, int depth) {
            readAllOf(draft, depth);
            for (int more = 0; more < Text.MOST_BYTES && text.passes('|'); more++) {
                int leap = draft.add(Law.LEAP_IF_TRUE, 0);
                readAllOf(draft, depth);
                draft.landHere(leap);
            }
        }

        private void readAllOf(Law draft, int depth) {
            readTest(draft, depth);
            for (int more = 0; more < Text.MOST_BYTES && text.passes('&'); more++) {
                int leap = draft.add(Law.LEAP_IF_FALSE, 0);
                readTest(draft, depth);
                draft.landHere(leap);
            }
        }

        private void readTest(Law draft, int depth) {
            if (text.sign == '!') {
                if (opens(depth)) {
                    readTest(draft, depth + 1);
                    draft.add(Law.NOT, 0);
                }
            } else if (text.sign == '(') {
                if (opens(depth)) {
                    readAnyOf(draft, depth + 1);
                    text.expects(')');
                }
            } else {
                readSum(draft, depth);
                int which = text.choose("<>=");
                readSum(draft, depth);
                draft.add(Law.BELOW + which, 0);
            }
        }

        private void readSum(Law draft, int depth) {
            readProduct(draft, depth);
            for (int more = 0; more < Text.MOST_BYTES && text.whichOf("+-") != NONE; more++) {
                int which = text.choose("+-");
                readProduct(draft, depth);
                draft.add(Law.PLUS + which, 0);
            }
        }

        private void readProduct(Law draft, int depth) {
            readFactor(draft, depth);
            for (int more = 0; more < Text.MOST_BYTES && text.whichOf("*/%") != NONE; more++) {
                int which = text.choose("*/%");
                readFactor(draft, depth);
                draft.add(Law.TIMES + which, 0);
            }
        }

        private void readFactor(Law draft, int depth) {
            if (text.sign == '[') {
                if (opens(depth)) {
                    readSum(draft, depth + 1);
                    text.expects(']');
                }
            } else if (text.isDigit()) {
                draft.add(Law.NUMBER, text.number(MOST_DIGITS));
            } else {
                draft.add(Law.FACT, text.choose(Usher.FACTS));
            }
        }

        /** Behind a fault nothing opens, so that the depth has an end. */
        private boolean opens(int depth) {
            if (depth >= MOST_OPEN) {
                text.fail(Text.TOO_DEEP, text.place);
            }
            if (text.hasFault()) {
                return false;
            }
            text.skip();
            return true;
        }
    }

    /** Reads a text as a list of guests. */
    private static final class ListReader {
        private final Text text;
        private int added = 0;

        ListReader(Text text) {
            this.text = text;
        }

        /** They are put behind the line at once, but wait there only if the whole list stands. */
        int readBehindLine(Church church) {
            added = 0;
            readPart(church);
            for (int more = 0; more < Text.MOST_BYTES && text.passes(','); more++) {
                readPart(church);
            }
            text.expectEnd();
            return added;
        }

        private void readPart(Church church) {
            int start = text.place;
            int alike = text.whichOf("23456789") == NONE ? 1 : 2 + text.choose("23456789");
            int side = text.choose("hgb");
            int family = text.choose("abcdefghijklmnop");
            int height = text.choose("0123456789");
            int child = text.passes('c') ? 1 : 0;
            int singer = text.passes('s') ? 1 : 0;
            if (church.waiting + added + alike > MOST_IN_LINE) {
                text.fail(Text.TOO_MANY, start);
            }
            if (text.hasFault()) {
                return;
            }
            int guest = Guest.of(side, family, height, child, singer);
            for (int i = 0; i < alike; i++) {
                church.line[church.waiting + added] = guest;
                added++;
            }
        }
    }

    /** Reads a text as moves, and moves while it reads: a line sees what those ahead have done. */
    private static final class MovesReader {
        private static final int MOST_LINES = 20;
        private static final int MOST_DIGITS = 3;

        private final Text text;
        private int lines = 0;

        MovesReader(Text text) {
            this.text = text;
        }

        int readAndMove(Church trial) {
            lines = 0;
            readLine(trial);
            for (int more = 0; more < Text.MOST_BYTES && text.passes(';'); more++) {
                readLine(trial);
            }
            text.expectEnd();
            return lines;
        }

        private void readLine(Church trial) {
            if (lines >= MOST_LINES && text.isDigit()) {
                text.fail(Text.TOO_MANY, text.place);
            }
            int from = readSeat(trial, true);
            int deed = text.choose(">=!");
            if (deed == 2) {
                trial.sendBack(from);
            } else {
                int to = readSeat(trial, deed == 1);
                if (!text.hasFault()) {
                    trial.exchange(from, to);
                }
            }
            lines++;
        }

        /** A seat that is taken, or not; what it answers with a fault does not matter. */
        private int readSeat(Church trial, boolean taken) {
            if (text.hasFault()) {
                return 0;
            }
            int start = text.place;
            int seat = text.number(MOST_DIGITS);
            if (text.hasFault()) {
                return 0;
            }
            if (seat >= SEATS) {
                text.fail(Text.SEAT_TOO_HIGH, start);
                return 0;
            }
            if (trial.isTaken(seat) != taken) {
                text.fail(taken ? Text.NOBODY_THERE : Text.SOMEBODY_THERE, start);
            }
            return seat;
        }
    }

    /** Leads the first in the line to seats. */
    private static final class Usher {
        /** The letters of the law's facts; a fact's place here is its place in the row of facts. */
        static final String FACTS = "sftcgdwqrnmk";
        private static final int FACTS_IN_ALL = 12;
        private static final int FIRST_OF_PEW = 7;
        private static final int MOST_WELL = 9999;
        private static final int MOST_TENTHS = 10;

        private final int[] facts = new int[FACTS_IN_ALL];
        int lastSeat = NOBODY;

        /** Answers over how many they climb. */
        int leadMany(Church church, Law law, int most) {
            int many = Math.min(most, church.waiting);
            int climbedBefore = church.climbed;
            lastSeat = NOBODY;
            for (int i = 0; i < many; i++) {
                lastSeat = leadOne(church, law, church.line[i]);
            }
            church.leaveLine(many);
            return church.climbed - climbedBefore;
        }

        private int leadOne(Church church, Law law, int guest) {
            int family = Guest.familyOf(guest);
            tellGuest(church, guest);
            // The draw is made whatever y is: every guest takes one.
            boolean asHeLikes = church.draw() < law.worth(Law.Y, facts, MOST_TENTHS);
            int pew = asHeLikes ? emptiestPew(church, family) : fittestPew(church, law, family);
            int seat = pew == NONE ? NOBODY : seatIn(church, law, pew, family);
            if (seat == NOBODY) {
                church.standing++;
            } else {
                church.sitDown(seat, guest);
            }
            church.arrived++;
            return seat;
        }

        private int emptiestPew(Church church, int family) {
            int best = NONE;
            int fewest = PLACES + 1;
            for (int pew = 0; pew < PEWS; pew++) {
                int sitting = church.sittingIn(pew);
                if (sitting < fewest && church.nearestToAisle(pew, family) != NONE) {
                    best = pew;
                    fewest = sitting;
                }
            }
            return best;
        }

        private int fittestPew(Church church, Law law, int family) {
            int best = NONE;
            int most = 0;
            for (int pew = 0; pew < PEWS; pew++) {
                if (church.nearestToAisle(pew, family) != NONE) {
                    tellPew(church, pew, family);
                    int well = law.worth(Law.E, facts, MOST_WELL);
                    if (well > most) {
                        best = pew;
                        most = well;
                    }
                }
            }
            return best;
        }

        private int seatIn(Church church, Law law, int pew, int family) {
            tellPew(church, pew, family);
            int seat = law.anyHolds(Law.O, facts)
                    ? church.nearestToWall(pew, family) : church.nearestToAisle(pew, family);
            return seat == NONE ? NOBODY : seat;
        }

        private void tellGuest(Church church, int guest) {
            facts[0] = Guest.sideOf(guest);
            facts[1] = Guest.familyOf(guest);
            facts[2] = Guest.heightOf(guest);
            facts[3] = Guest.childOf(guest);
            facts[4] = Guest.singerOf(guest);
            facts[5] = church.moreOnHers();
            facts[6] = church.arrived % 1000;
            for (int fact = FIRST_OF_PEW; fact < FACTS_IN_ALL; fact++) {
                facts[fact] = 0;
            }
        }

        private void tellPew(Church church, int pew, int family) {
            facts[FIRST_OF_PEW] = pew / ROWS;
            facts[FIRST_OF_PEW + 1] = pew % ROWS;
            facts[FIRST_OF_PEW + 2] = church.sittingIn(pew);
            facts[FIRST_OF_PEW + 3] = church.sittingOfIn(family, pew);
            facts[FIRST_OF_PEW + 4] = church.keptFor(family, pew);
        }
    }

    /** What can be seen of those that sit and wait; nothing is changed. */
    private static final class Looks {
        private static final int ROW_SETS = 1 << PLACES;

        private final int[] singersByRow = new int[ROWS];
        /** The most that stand apart if those of the last row are among such places. */
        private final int[] most = new int[ROW_SETS];
        private final int[] mostBefore = new int[ROW_SETS];

        int view(Church church, int seat) {
            int height = Guest.heightOf(church.guestOn(seat));
            int row = seat / PLACES % ROWS;
            for (int ahead = 1; ahead <= row; ahead++) {
                int other = seat - ahead * PLACES;
                if (church.isTaken(other) && Guest.heightOf(church.guestOn(other)) >= height) {
                    return ahead;
                }
            }
            return 0;
        }

        int familiesIn(Church church, int pew) {
            int bits = 0;
            for (int place = 0; place < PLACES; place++) {
                int guest = church.guestOn(pew * PLACES + place);
                if (guest != Guest.NOT_THERE) {
                    bits |= 1 << Guest.familyOf(guest);
                }
            }
            return bits;
        }

        int longestTaken(Church church, int pew) {
            int longest = 0;
            int run = 0;
            for (int place = 0; place < PLACES; place++) {
                run = church.isTaken(pew * PLACES + place) ? run + 1 : 0;
                longest = Math.max(longest, run);
            }
            return longest;
        }

        int longestOfOneFamily(Church church, int pew) {
            int longest = 0;
            for (int family = 0; family < FAMILIES; family++) {
                int run = 0;
                for (int place = 0; place < PLACES; place++) {
                    run = church.isTakenBy(pew * PLACES + place, family) ? run + 1 : 0;
                    longest = Math.max(longest, run);
                }
            }
            return longest;
        }

        int coatsLeftIn(Church church, int pew) {
            int many = 0;
            for (int place = 0; place < PLACES; place++) {
                int seat = pew * PLACES + place;
                if (!church.isTaken(seat) && church.coatOn(seat) != NONE) {
                    many++;
                }
            }
            return many;
        }

        int tornFamilies(Church church) {
            int seen = 0;
            int torn = 0;
            for (int pew = 0; pew < PEWS; pew++) {
                int here = familiesIn(church, pew);
                torn |= seen & here;
                seen |= here;
            }
            return torn;
        }

        int gather(Church church, int family, int what) {
            int all = church.sittingOf(family);
            if (all == 0) {
                return NOBODY_OF_IT_SITS;
            }
            int fewest = all + 1;
            int best = NOBODY;
            for (int pew = 0; pew < PEWS; pew++) {
                int changing = all - church.sittingOfIn(family, pew);
                if (changing <= PLACES - church.sittingIn(pew) && changing < fewest) {
                    fewest = changing;
                    best = pew;
                }
            }
            return best == NOBODY || what == 1 ? best : fewest;
        }

        int blind(Church church, int what) {
            int many = 0;
            int first = NOBODY;
            for (int seat = 0; seat < SEATS; seat++) {
                if (isBlind(church, seat)) {
                    many++;
                    first = first == NOBODY ? seat : first;
                }
            }
            return what == 0 ? many : first;
        }

        private boolean isBlind(Church church, int seat) {
            int ahead = seat - PLACES;
            return seat % SIDE_SEATS >= PLACES && church.isTaken(seat) && church.isTaken(ahead)
                    && Guest.heightOf(church.guestOn(ahead)) > Guest.heightOf(church.guestOn(seat));
        }

        /** Over how many they climb from the aisle on, or in the row in which they came. */
        int climbsAnew(Church church, int pew, boolean asTheyCame) {
            int climbs = 0;
            for (int place = 0; place < PLACES; place++) {
                for (int aisleward = 0; aisleward < place; aisleward++) {
                    int seat = pew * PLACES + place;
                    int other = pew * PLACES + aisleward;
                    if (church.isTaken(seat) && church.isTaken(other)
                            && (!asTheyCame || church.numbers[other] < church.numbers[seat])) {
                        climbs++;
                    }
                }
            }
            return climbs;
        }

        int seatTwo(Church church, int side, int apart, int what) {
            int ways = 0;
            int lower = NOBODY;
            int upper = NOBODY;
            int behind = side * SIDE_SEATS + SIDE_SEATS;
            for (int one = behind - SIDE_SEATS; one < behind; one++) {
                for (int two = one + 1; two < behind && !church.isTaken(one); two++) {
                    if (!church.isTaken(two) && two / PLACES - one / PLACES >= apart) {
                        lower = ways == 0 ? one : lower;
                        upper = ways == 0 ? two : upper;
                        ways++;
                    }
                }
            }
            if (what == 0) {
                return ways;
            }
            return what == 1 ? lower : upper;
        }

        int choir(Church church, int what) {
            int many = fillSingersByRow(church);
            if (what == 0 || many == 0) {
                return what == 0 ? many : NOBODY;
            }
            int middle = middleRow(many);
            if (what == 1) {
                return middle;
            }
            int far = 0;
            for (int row = 0; row < ROWS; row++) {
                far += singersByRow[row] * Math.abs(row - middle);
            }
            return far;
        }

        private int fillSingersByRow(Church church) {
            int many = 0;
            Arrays.fill(singersByRow, 0);
            for (int seat = 0; seat < SEATS; seat++) {
                if (church.isTaken(seat) && Guest.singerOf(church.guestOn(seat)) == 1) {
                    singersByRow[seat / PLACES % ROWS]++;
                    many++;
                }
            }
            return many;
        }

        private int middleRow(int many) {
            int upToHere = 0;
            for (int row = 0; row < ROWS; row++) {
                upToHere += singersByRow[row];
                if (2 * upToHere >= many) {
                    return row;
                }
            }
            return ROWS - 1;
        }

        int lonely(Church church, int what) {
            int many = 0;
            int first = NOBODY;
            for (int seat = 0; seat < SEATS; seat++) {
                if (church.isTaken(seat) && isLonely(church, seat)) {
                    many++;
                    first = first == NOBODY ? seat : first;
                }
            }
            return what == 0 ? many : first;
        }

        private boolean isLonely(Church church, int seat) {
            int family = Guest.familyOf(church.guestOn(seat));
            boolean hasAislewards = seat % PLACES > 0 && church.isTaken(seat - 1);
            boolean hasWallwards = seat % PLACES < PLACES - 1 && church.isTaken(seat + 1);
            boolean isBesideHis = hasAislewards && church.isTakenBy(seat - 1, family)
                    || hasWallwards && church.isTakenBy(seat + 1, family);
            return (hasAislewards || hasWallwards) && !isBesideHis;
        }

        int familiesWaiting(Church church) {
            int bits = 0;
            for (int i = 0; i < church.waiting && i < MOST_IN_LINE; i++) {
                bits |= 1 << Guest.familyOf(church.line[i]);
            }
            return bits;
        }

        /** Sides 0 to 2, children 3, singers 4. */
        int waitingLike(Church church, int kind) {
            int many = 0;
            for (int i = 0; i < church.waiting && i < MOST_IN_LINE; i++) {
                if (isLike(church.line[i], kind)) {
                    many++;
                }
            }
            return many;
        }

        private static boolean isLike(int guest, int kind) {
            if (kind == 3) {
                return Guest.childOf(guest) == 1;
            }
            return kind == 4 ? Guest.singerOf(guest) == 1 : Guest.sideOf(guest) == kind;
        }

        int children(Church church, boolean atEdge) {
            int many = 0;
            for (int seat = 0; seat < SEATS; seat++) {
                if (church.isTaken(seat) && Guest.childOf(church.guestOn(seat)) == 1
                        && (church.sittingAisleward(seat) == 0) == atEdge) {
                    many++;
                }
            }
            return many;
        }

        /** A set of a row's places goes with any set of the row ahead that shares none with it. */
        int mostApart(Church church, int side) {
            Arrays.fill(most, 0);
            for (int row = 0; row < ROWS; row++) {
                System.arraycopy(most, 0, mostBefore, 0, ROW_SETS);
                int taken = takenPlaces(church, pewOf(side, row));
                for (int set = 0; set < ROW_SETS; set++) {
                    boolean canStand = (set & ~taken) == 0 && (set & set << 1) == 0;
                    most[set] = canStand
                            ? Integer.bitCount(set) + mostBefore[ROW_SETS - 1 - set] : 0;
                }
                raiseToSubsets();
            }
            return most[ROW_SETS - 1];
        }

        private static int takenPlaces(Church church, int pew) {
            int bits = 0;
            for (int place = 0; place < PLACES; place++) {
                if (church.isTaken(pew * PLACES + place)) {
                    bits |= 1 << place;
                }
            }
            return bits;
        }

        private void raiseToSubsets() {
            for (int bit = 1; bit < ROW_SETS; bit <<= 1) {
                for (int set = 0; set < ROW_SETS; set++) {
                    if ((set & bit) != 0) {
                        most[set] = Math.max(most[set], most[set - bit]);
                    }
                }
            }
        }
    }

    /** What is reckoned of the tape's bytes as numbers. */
    private static final class Sums {
        static final int MOST_FRIENDS = 12;
        static final int MOST_FITTING = 6;
        static final int MOST_USHERS = 8;
        static final int MOST_IN_ANY_ROW = 10;
        static final int MOST_HATS = 12;
        static final int ALL_LED = 100;
        private static final int HALF = 6;
        /** Above every sum of minutes of ten guests. */
        private static final int ONE_USHER = 1 << 12;
        /** Above all that is reckoned here, where the least of something is looked for. */
        private static final int ABOVE_ALL = 1 << 30;

        private final Tape tape;
        private final int[] lowSums = new int[1 << HALF];
        private final int[] highSums = new int[1 << HALF];
        private final int[] freeAt = new int[MOST_USHERS];
        private final int[] rising = new int[MOST_HATS];
        /** By sets of guests: ONE_USHER times the full ushers, and the next one's minutes. */
        private final int[] used = new int[1 << MOST_IN_ANY_ROW];

        Sums(Tape tape) {
            this.tape = tape;
        }

        /** The sums of all sets of so many bytes from one on, HALF at most. */
        private void fillSums(int first, int many, int[] into) {
            into[0] = 0;
            for (int i = 0; i < many && i < HALF; i++) {
                int bit = 1 << i;
                for (int set = 0; set < bit; set++) {
                    into[bit + set] = into[set] + tape.byteAt(first + i);
                }
            }
        }

        private int sumOfFirst(int n) {
            int sum = 0;
            for (int i = 0; i < n; i++) {
                sum += tape.byteAt(i);
            }
            return sum;
        }

        /** In halves the sums are few: a set's sum is that of its low bits and of its high ones. */
        int balance(int n, int hers, int his, int what) {
            int low = Math.min(n, HALF);
            fillSums(0, low, lowSums);
            fillSums(low, n - low, highSums);
            int withNone = hers - his - sumOfFirst(n);
            int lowBits = (1 << low) - 1;
            int best = 0;
            int least = ABOVE_ALL;
            for (int set = 0; set < 1 << n && n <= MOST_FRIENDS; set++) {
                int goHers = lowSums[set & lowBits] + highSums[set >> low];
                int uneven = Math.abs(withNone + 2 * goHers);
                if (uneven < least) {
                    least = uneven;
                    best = set;
                }
            }
            return what == 0 ? least : best;
        }

        int fitFamilies(Church church, int n, int what) {
            for (int i = 0; i < n; i++) {
                if (!isWithin(tape.byteAt(i), 1, PLACES)) {
                    return NOBODY;
                }
            }
            fillSums(0, n, lowSums);
            int all = (1 << n) - 1;
            long fitting = 1L;
            for (int pew = 0; pew < PEWS; pew++) {
                fitting = withOnePewMore(fitting, all, PLACES - church.sittingIn(pew));
            }
            int best = 0;
            for (int set = 0; set <= all; set++) {
                if ((fitting >> set & 1L) != 0 && Integer.bitCount(set) > Integer.bitCount(best)) {
                    best = set;
                }
            }
            return what == 0 ? Integer.bitCount(best) : best;
        }

        /** Bit s of fitting: the families of set s have found pews. */
        private long withOnePewMore(long fitting, int all, int left) {
            long more = fitting;
            for (int set = 0; set <= all; set++) {
                int rest = (fitting >> set & 1L) != 0 ? all - set : 0;
                for (int here = rest; here > 0; here = here - 1 & rest) {
                    if (lowSums[here] <= left) {
                        more |= 1L << (set | here);
                    }
                }
            }
            return more;
        }

        int leadInRow(int n, int many, int what) {
            Arrays.fill(freeAt, 0);
            int last = 0;
            for (int i = 0; i < n; i++) {
                int first = firstFree(many);
                if (i == what) {
                    return freeAt[first];
                }
                freeAt[first] += tape.byteAt(i);
                last = Math.max(last, freeAt[first]);
            }
            return last;
        }

        private int firstFree(int many) {
            int first = 0;
            for (int i = 1; i < many && i < MOST_USHERS; i++) {
                if (freeAt[i] < freeAt[first]) {
                    first = i;
                }
            }
            return first;
        }

        int leadInBestRow(int n, int many) {
            int longest = 0;
            for (int i = 0; i < n; i++) {
                longest = Math.max(longest, tape.byteAt(i));
            }
            int low = longest;
            int high = sumOfFirst(n);
            for (int halving = 0; halving < 32 && low < high; halving++) {
                int middle = (low + high) / 2;
                if (ushersFor(n, middle) <= many) {
                    high = middle;
                } else {
                    low = middle + 1;
                }
            }
            return low;
        }

        /** The fewest ushers that lead all within a limit, which no guest alone goes beyond. */
        private int ushersFor(int n, int limit) {
            used[0] = 0;
            for (int set = 1; set < 1 << n && set < used.length; set++) {
                used[set] = ABOVE_ALL;
                for (int i = 0; i < n; i++) {
                    if ((set >> i & 1) == 1) {
                        int before = used[set - (1 << i)];
                        used[set] = Math.min(used[set], withOneMore(before, tape.byteAt(i), limit));
                    }
                }
            }
            int all = used[(1 << n) - 1];
            return all / ONE_USHER + (all % ONE_USHER > 0 ? 1 : 0);
        }

        private static int withOneMore(int before, int minutes, int limit) {
            if (before % ONE_USHER + minutes <= limit) {
                return before + minutes;
            }
            return (before / ONE_USHER + 1) * ONE_USHER + minutes;
        }

        int heightsInRow(int n, int what) {
            if (what == 0) {
                return seenFromFront(n);
            }
            return what == 1 ? changesTillRising(n) : n - longestRising(n);
        }

        private int seenFromFront(int n) {
            int seen = 0;
            int highest = -1;
            for (int i = 0; i < n; i++) {
                if (tape.byteAt(i) > highest) {
                    highest = tape.byteAt(i);
                    seen++;
                }
            }
            return seen;
        }

        private int changesTillRising(int n) {
            int changes = 0;
            for (int i = 0; i < n; i++) {
                for (int ahead = 0; ahead < i; ahead++) {
                    if (tape.byteAt(i) < tape.byteAt(ahead)) {
                        changes++;
                    }
                }
            }
            return changes;
        }

        private int longestRising(int n) {
            int longest = 0;
            for (int i = 0; i < n && i < MOST_HATS; i++) {
                rising[i] = 1;
                for (int ahead = 0; ahead < i; ahead++) {
                    if (tape.byteAt(ahead) < tape.byteAt(i)) {
                        rising[i] = Math.max(rising[i], rising[ahead] + 1);
                    }
                }
                longest = Math.max(longest, rising[i]);
            }
            return longest;
        }
    }
}
