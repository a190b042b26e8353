import java.util.Arrays;

/**
 * Guests of the tide: an inn on a bank that is under water twice a day.
 * This class looks at what a call brings and hands it on; the classes inside hold what is
 * and reckon with it. Every row is made in a constructor and used again, so that no call
 * makes an object.
 */
public final class TideGuests {
    public static final int NONE = -1;

    private static final int OTHER = -2;
    private static final int UNTOLD = -1000;
    private static final int MINUTES = 1440;
    private static final int MOST_CELLS = 36;
    private static final int MOST_PERCHES = 8;
    private static final int MOST_GUESTS = 10;
    private static final int MOST_TEXTS = 6;
    private static final int MOST_BYTES = 300;
    private static final int MOST_CLAUSES = 10;
    private static final int MOST_HORSES = 7;
    private static final int MOST_LINES = 12;
    private static final int KEPT_TIMES = 50;

    /** Clauses by kind: each kind's place in this order is the number that a Text keeps. */
    private static final int TIDE = 0;
    private static final int WISH = 1;
    private static final int BILL = 2;
    private static final int RAFT = 3;
    private static final int BARS = 4;
    private static final int QUARREL = 5;

    /** Names by number, as the laws hold their values. */
    private static final int MINUTE = 0;
    private static final int WIND = 1;
    private static final int MOON = 2;
    private static final int RANK = 3;
    private static final int SWIM = 4;
    private static final int FEAR = 5;
    private static final int BAG = 6;
    private static final int HIGH = 7;
    private static final int LEVEL = 8;
    private static final int WITH = 9;
    private static final int RIVAL = 10;
    private static final int WET = 11;
    private static final int MOVES = 12;
    private static final int CRABS = 13;
    private static final int DOORS = 14;
    private static final int NAMES = 15;

    /** What joins: kinds of tokens to the reader, signs behind OPERATORS to the laws. */
    private static final int OPERATORS = 10000;
    private static final int ADD = 10;
    private static final int SUB = 11;
    private static final int MUL = 12;
    private static final int DIV = 13;
    private static final int LESS = 14;
    private static final int LESS_OR_LIKE = 15;
    private static final int MORE = 16;
    private static final int MORE_OR_LIKE = 17;
    private static final int LIKE = 18;
    private static final int UNLIKE = 19;
    private static final int NEGATE = 20;
    private static final int OR = 30;
    private static final int AND = 31;
    private static final int NOT = 32;
    private static final int FIRST_NAME = 33;

    private final House house;
    private final House kept;
    private final Reader reader;
    private final Laws laws;
    private final Seats seats;
    private final Leaving leaving;
    private final Rescue rescue;

    public TideGuests(int w, int h) {
        int wide = Math.max(2, Math.min(6, w));
        int tall = Math.max(2, Math.min(6, h));
        house = new House(wide, tall);
        kept = new House(wide, tall);
        reader = new Reader();
        laws = new Laws(house);
        seats = new Seats(house, laws);
        leaving = new Leaving(house.bank, laws);
        rescue = new Rescue(house, laws, seats);
    }

    public boolean cell(int cell, int height, boolean shore) {
        if (!house.bank.isCell(cell) || !within(height, 0, 99)) {
            return false;
        }
        house.bank.become(cell, height, shore);
        return true;
    }

    public boolean inn(int cell) {
        if (!house.bank.isCell(cell)) {
            return false;
        }
        house.bank.innCell = cell;
        return true;
    }

    public boolean sky(int wind, int moon) {
        if (!within(wind, -9, 9) || !within(moon, 0, 9)) {
            return false;
        }
        house.wind = wind;
        house.moon = moon;
        laws.forgetLevels();
        return true;
    }

    public int perch(int high, int room) {
        if (!within(high, 0, 99) || !within(room, 1, 4) || house.perches >= MOST_PERCHES) {
            return NONE;
        }
        return house.addPerch(high, room);
    }

    public int guest(int rank, int nose, boolean swims, int fear, int bag, int pace, int wades) {
        boolean right = within(rank, 0, 9) && within(nose, 0, 30) && within(fear, 0, 9)
            && within(bag, 0, 9) && within(pace, 1, 20) && within(wades, 0, 30);
        Guest next = house.freeGuest();
        if (!right || next == null) {
            return NONE;
        }
        next.become(rank, nose, swims, fear, bag, pace, wades);
        return house.takeIn();
    }

    public boolean here(int guest, int crabs, boolean is) {
        Guest one = house.guestAt(guest);
        if (one == null || !within(crabs, 0, 99)) {
            return false;
        }
        one.crabs = crabs;
        one.present = is;
        return true;
    }

    public int feed(int a, int b, int c, int d, int e) {
        if (!reader.hasRoom(20)) {
            return NONE;
        }
        reader.addFour(a);
        reader.addFour(b);
        reader.addFour(c);
        reader.addFour(d);
        reader.addFour(e);
        return reader.length;
    }

    public int end(int n) {
        if (!within(n, 0, reader.length)) {
            return NONE;
        }
        reader.length = n;
        return n;
    }

    public int text() {
        Text free = laws.textAt(house.texts);
        if (free == null) {
            return NONE;
        }
        reader.read();
        if (reader.wrong != 0) {
            return NONE;
        }
        free.copyFrom(reader.draft);
        house.texts++;
        return house.texts - 1;
    }

    public int fault(int what) {
        if (!reader.hasRead || !within(what, 0, 1)) {
            return NONE;
        }
        return what == 0 ? reader.wrong : reader.place;
    }

    public boolean by(int text) {
        if (!within(text, NONE, house.texts - 1)) {
            return false;
        }
        house.lawText = text;
        laws.forgetLevels();
        return true;
    }

    public int level(int minute) {
        return isMinute(minute) ? laws.levelAt(minute) : NONE;
    }

    public int seat(int minute, int guest) {
        Guest one = house.guestAt(guest);
        if (!isMinute(minute) || one == null || !one.present) {
            return OTHER;
        }
        seats.turnTo(minute);
        seats.seatAll(house.bitsHere());
        return seats.placeOf(guest);
    }

    public int night(int from, int to, int every) {
        if (!isMinute(from) || !within(to, from, MINUTES - 1) || !within(every, 1, 60)) {
            return NONE;
        }
        seats.pass(from, to, every);
        return house.latest.times;
    }

    public int told(int guest, int what) {
        if (what == 4) {
            return house.latest.quarrels;
        }
        if (house.guestAt(guest) == null) {
            return OTHER;
        }
        switch (what) {
            case 0:
                return at(house.latest.wet, guest);
            case 1:
                return at(house.latest.under, guest);
            case 2:
                return at(house.latest.moves, guest);
            case 3:
                return laws.billOf(guest);
            default:
                return OTHER;
        }
    }

    public int sat(int guest, int k) {
        return house.guestAt(guest) == null ? OTHER : house.latest.placeAt(guest, k);
    }

    public int way(int guest, int m, int k) {
        Guest one = house.guestAt(guest);
        if (one == null || !isMinute(m) || k < NONE) {
            return NONE;
        }
        leaving.begin(one);
        int steps = leaving.stepsFrom(m);
        if (k == NONE) {
            return steps;
        }
        return k < steps ? leaving.stepOf(steps, k) : NONE;
    }

    public int last(int guest) {
        Guest one = house.guestAt(guest);
        if (one == null) {
            return NONE;
        }
        leaving.begin(one);
        return leaving.latestStart();
    }

    public int pilot(int guest, int m, int drunk, int n) {
        Guest one = house.guestAt(guest);
        if (one == null || !isMinute(m) || !within(drunk, 0, 3) || !within(n, 1, 10)) {
            return NONE;
        }
        leaving.begin(one);
        return leaving.thousandthsSafe(m, drunk, n);
    }

    public int given(int minute, int guest) {
        if (!isMinute(minute) || Integer.bitCount(house.bitsHere()) > 5) {
            return NONE;
        }
        Guest one = house.guestAt(guest);
        if (guest != NONE && (one == null || !one.present)) {
            return NONE;
        }
        return rescue.deal(minute, guest);
    }

    public int hatch(int m, int what) {
        if (!isMinute(m) || !within(what, 0, 2)) {
            return NONE;
        }
        seats.turnTo(m);
        seats.seatAll(house.bitsHere());
        int saved = rescue.getOut(m);
        switch (what) {
            case 0:
                return saved;
            case 1:
                return rescue.worthOf(saved);
            default:
                return Integer.bitCount(house.bitsHere()) - Integer.bitCount(saved);
        }
    }

    public int horse(int weight) {
        if (!within(weight, 1, 999) || house.horses >= MOST_HORSES) {
            return NONE;
        }
        put(house.weights, house.horses, weight);
        house.horses++;
        return house.horses;
    }

    public int rafts() {
        return rescue.fewestDoors();
    }

    public int line(int minute, int guest, int perch) {
        boolean right = isMinute(minute) && house.guestAt(guest) != null
            && within(perch, NONE, house.perches - 1);
        if (!right || house.book.lines >= MOST_LINES) {
            return NONE;
        }
        house.book.add(minute, guest, perch);
        return house.book.lines;
    }

    public int there(int what) {
        if (!within(what, 0, 3)) {
            return NONE;
        }
        seats.sift();
        return seats.siftedOf(what);
    }

    public int shift(int seed, int n) {
        if (!within(seed, 0, 9999) || !within(n, 1, 60)) {
            return NONE;
        }
        return house.bank.drift(seed, n);
    }

    public int image() {
        kept.copyFrom(house);
        return house.guests;
    }

    public int back() {
        house.copyFrom(kept);
        laws.forgetLevels();
        return house.guests;
    }

    public int about(int what) {
        if (what == 11) {
            return reader.length;
        }
        if (within(what, 0, 10)) {
            return house.countOf(what);
        }
        if (within(what, 20, 39)) {
            return house.perchAbout(what);
        }
        if (within(what, 40, 69)) {
            return house.guestAbout(what);
        }
        if (house.bank.isCell(what - 100)) {
            return house.bank.heightOf(what - 100);
        }
        if (house.bank.isCell(what - 200)) {
            return house.bank.isShore(what - 200) ? 1 : 0;
        }
        return UNTOLD;
    }

    private static boolean within(int value, int least, int most) {
        return value >= least && value <= most;
    }

    private static boolean isMinute(int minute) {
        return within(minute, 0, MINUTES - 1);
    }

    private static boolean hasBit(int bits, int i) {
        return i >= 0 && i < 31 && (bits >> i & 1) == 1;
    }

    /** What a row holds at a place; 0 outside of it. */
    private static int at(int[] row, int i) {
        if (row == null || i < 0 || i >= row.length) {
            return 0;
        }
        return row[i];
    }

    /** Sets a place of a row; nothing outside of it. */
    private static void put(int[] row, int i, int value) {
        if (row != null && i >= 0 && i < row.length) {
            row[i] = value;
        }
    }

    private static void copyRow(int[] from, int[] to) {
        if (from != null && to != null) {
            System.arraycopy(from, 0, to, 0, Math.min(from.length, to.length));
        }
    }

    /** The cells; a set of them is a long with a bit for each. */
    private static final class Bank {
        final int wide;
        final int tall;
        final int cells;
        final long all;
        final long leftColumn;
        final long rightColumn;
        final int[] heights = new int[MOST_CELLS];
        long shores = 0L;
        int innCell = 0;

        Bank(int w, int h) {
            wide = w;
            tall = h;
            cells = w * h;
            all = (1L << cells) - 1L;
            long left = 0L;
            for (int y = 0; y < h; y++) {
                left = left << w | 1L;
            }
            leftColumn = left;
            rightColumn = left << (w - 1);
        }

        boolean isCell(int cell) {
            return cell >= 0 && cell < cells;
        }

        int heightOf(int cell) {
            return at(heights, cell);
        }

        boolean isShore(int cell) {
            return isCell(cell) && (shores >> cell & 1L) == 1L;
        }

        void become(int cell, int height, boolean shore) {
            put(heights, cell, height);
            shores = shores & ~(1L << cell);
            if (shore) {
                shores = shores | 1L << cell;
            }
        }

        /** The cell by a side; the sides go up, left, right, down, so the cells ascend. */
        int beside(int cell, int side) {
            if (!isCell(cell)) {
                return NONE;
            }
            switch (side) {
                case 0:
                    return cell >= wide ? cell - wide : NONE;
                case 1:
                    return (leftColumn >> cell & 1L) == 1L ? NONE : cell - 1;
                case 2:
                    return (rightColumn >> cell & 1L) == 1L ? NONE : cell + 1;
                case 3:
                    return cell + wide < cells ? cell + wide : NONE;
                default:
                    return NONE;
            }
        }

        /** All cells beside one of a set. */
        long besides(long set) {
            long up = set >>> wide;
            long left = (set & ~leftColumn) >>> 1;
            long right = (set & ~rightColumn) << 1;
            long down = set << wide & all;
            return up | left | right | down;
        }

        int drift(int seed, int times) {
            int x = seed * 7 + 3;
            for (int i = 0; i < times; i++) {
                int drawn = cells > 0 ? x % cells : 0;
                x = (x * 143 + 41) % 30103;
                int higher = heightOf(drawn) + x % 3 - 1;
                x = (x * 143 + 41) % 30103;
                put(heights, drawn, Math.max(0, Math.min(99, higher)));
            }
            int sum = 0;
            for (int c = 0; c < cells; c++) {
                sum += heightOf(c);
            }
            return sum;
        }

        void copyFrom(Bank from) {
            copyRow(from.heights, heights);
            shores = from.shores;
            innCell = from.innCell;
        }
    }

    private static final class Guest {
        int rank = 0;
        int nose = 0;
        boolean swims = false;
        int fear = 0;
        int bag = 0;
        int pace = 1;
        int wades = 0;
        int crabs = 0;
        boolean present = true;

        void become(int r, int n, boolean s, int f, int b, int p, int w) {
            rank = r;
            nose = n;
            swims = s;
            fear = f;
            bag = b;
            pace = p;
            wades = w;
            crabs = 0;
            present = true;
        }

        void copyFrom(Guest from) {
            become(from.rank, from.nose, from.swims, from.fear, from.bag, from.pace, from.wades);
            crabs = from.crabs;
            present = from.present;
        }
    }

    private static final class Book {
        int lines = 0;
        final int[] minutes = new int[MOST_LINES];
        final int[] guests = new int[MOST_LINES];
        final int[] perches = new int[MOST_LINES];

        void add(int minute, int guest, int perch) {
            put(minutes, lines, minute);
            put(guests, lines, guest);
            put(perches, lines, perch);
            lines++;
        }

        void copyFrom(Book from) {
            lines = from.lines;
            copyRow(from.minutes, minutes);
            copyRow(from.guests, guests);
            copyRow(from.perches, perches);
        }
    }

    /** What is kept of the latest night. */
    private static final class Night {
        int times = 0;
        int quarrels = 0;
        int hereBits = 0;
        final int[] wet = new int[MOST_GUESTS];
        final int[] under = new int[MOST_GUESTS];
        final int[] moves = new int[MOST_GUESTS];
        final int[] places = new int[KEPT_TIMES * MOST_GUESTS];

        void begin(int bits) {
            times = 0;
            quarrels = 0;
            hereBits = bits;
            Arrays.fill(wet, 0);
            Arrays.fill(under, 0);
            Arrays.fill(moves, 0);
        }

        void keepPlace(int guest, int place) {
            if (times < KEPT_TIMES) {
                put(places, times * MOST_GUESTS + guest, place);
            }
        }

        int placeAt(int guest, int k) {
            if (!within(k, 0, Math.min(times, KEPT_TIMES) - 1) || !hasBit(hereBits, guest)) {
                return OTHER;
            }
            return at(places, k * MOST_GUESTS + guest);
        }

        void copyFrom(Night from) {
            times = from.times;
            quarrels = from.quarrels;
            hereBits = from.hereBits;
            copyRow(from.wet, wet);
            copyRow(from.under, under);
            copyRow(from.moves, moves);
            copyRow(from.places, places);
        }
    }

    /** All that an image holds. The texts themselves are not in it, only how many count. */
    private static final class House {
        final Bank bank;
        final Book book = new Book();
        final Night latest = new Night();
        int wind = 0;
        int moon = 0;
        int perches = 0;
        int guests = 0;
        int texts = 0;
        int lawText = NONE;
        int horses = 0;
        final int[] highs = new int[MOST_PERCHES];
        final int[] rooms = new int[MOST_PERCHES];
        final int[] weights = new int[MOST_HORSES];
        /** Guests as they are seated: the greatest rank first, of like ones the lowest. */
        final int[] order = new int[MOST_GUESTS];
        final Guest[] people = new Guest[MOST_GUESTS];

        House(int w, int h) {
            bank = new Bank(w, h);
            for (int g = 0; g < people.length; g++) {
                people[g] = new Guest();
            }
        }

        Guest guestAt(int g) {
            return g >= 0 && g < guests && g < people.length ? people[g] : null;
        }

        Guest freeGuest() {
            return guests >= 0 && guests < people.length ? people[guests] : null;
        }

        /** Counts the free guest, once told, among the guests, and puts him into the order. */
        int takeIn() {
            int number = guests;
            guests++;
            Guest fresh = guestAt(number);
            if (fresh == null) {
                return NONE;
            }
            int place = number;
            for (int i = number; i > 0; i--) {
                Guest ahead = guestAt(at(order, i - 1));
                if (ahead == null || ahead.rank >= fresh.rank) {
                    break;
                }
                put(order, i, at(order, i - 1));
                place = i - 1;
            }
            put(order, place, number);
            return number;
        }

        int addPerch(int high, int room) {
            put(highs, perches, high);
            put(rooms, perches, room);
            perches++;
            return perches - 1;
        }

        /** HIGH of a perch; 0 of the floor. */
        int highOf(int perch) {
            return at(highs, perch);
        }

        int bitsHere() {
            int bits = 0;
            for (int g = 0; g < guests; g++) {
                Guest one = guestAt(g);
                if (one != null && one.present) {
                    bits = bits | 1 << g;
                }
            }
            return bits;
        }

        int countOf(int what) {
            switch (what) {
                case 0:
                    return bank.wide;
                case 1:
                    return bank.tall;
                case 2:
                    return bank.innCell;
                case 3:
                    return wind;
                case 4:
                    return moon;
                case 5:
                    return perches;
                case 6:
                    return guests;
                case 7:
                    return texts;
                case 8:
                    return lawText;
                case 9:
                    return horses;
                case 10:
                    return book.lines;
                default:
                    return UNTOLD;
            }
        }

        int perchAbout(int what) {
            int perch = what < 30 ? what - 20 : what - 30;
            if (perch < 0 || perch >= perches) {
                return UNTOLD;
            }
            return what < 30 ? at(highs, perch) : at(rooms, perch);
        }

        int guestAbout(int what) {
            if (what < 50) {
                Guest ranked = guestAt(what - 40);
                return ranked == null ? UNTOLD : ranked.rank;
            }
            if (what < 60) {
                Guest crabbed = guestAt(what - 50);
                return crabbed == null ? UNTOLD : crabbed.crabs;
            }
            Guest seen = guestAt(what - 60);
            if (seen == null) {
                return UNTOLD;
            }
            return seen.present ? 1 : 0;
        }

        void copyFrom(House from) {
            bank.copyFrom(from.bank);
            book.copyFrom(from.book);
            latest.copyFrom(from.latest);
            wind = from.wind;
            moon = from.moon;
            perches = from.perches;
            guests = from.guests;
            texts = from.texts;
            lawText = from.lawText;
            horses = from.horses;
            copyRow(from.highs, highs);
            copyRow(from.rooms, rooms);
            copyRow(from.weights, weights);
            copyRow(from.order, order);
            for (int g = 0; g < people.length && g < from.people.length; g++) {
                if (people[g] != null && from.people[g] != null) {
                    people[g].copyFrom(from.people[g]);
                }
            }
        }
    }

    /**
     * The clauses of a text, each with its signs in the order in which they are reckoned: what
     * an operator joins stands ahead of it. A number is itself, all else OPERATORS and its kind.
     */
    private static final class Text {
        int length = 0;
        int clauses = 0;
        final int[] code = new int[MOST_BYTES];
        final int[] kinds = new int[MOST_CLAUSES];
        final int[] starts = new int[MOST_CLAUSES];
        final int[] ends = new int[MOST_CLAUSES];

        void clear() {
            length = 0;
            clauses = 0;
        }

        void add(int sign) {
            if (length >= 0 && length < code.length) {
                code[length] = sign;
                length++;
            }
        }

        void open(int kind) {
            put(kinds, clauses, kind);
            put(starts, clauses, length);
            put(ends, clauses, length);
            clauses++;
        }

        void close() {
            put(ends, clauses - 1, length);
        }

        /** The first clause of a kind; NONE if there is none. */
        int clauseOf(int kind) {
            for (int i = 0; i < clauses && i < MOST_CLAUSES; i++) {
                if (at(kinds, i) == kind) {
                    return i;
                }
            }
            return NONE;
        }

        void copyFrom(Text from) {
            length = from.length;
            clauses = from.clauses;
            copyRow(from.code, code);
            copyRow(from.kinds, kinds);
            copyRow(from.starts, starts);
            copyRow(from.ends, ends);
        }
    }

    /** The tape, and the reading of it from left to right up to the first fault. */
    private static final class Reader {
        static final int NOTHING_MORE = 0;
        static final int STRANGE = 1;
        static final int NUMBER = 2;
        static final int OPEN = 3;
        static final int CLOSE = 4;
        static final int STOP = 5;
        static final int FIRST_WORD = 24;
        static final int MOST_OPEN = 8;
        static final int MOST_NUMBER = 9999;
        /** By kind from FIRST_WORD on, a blank behind each. */
        static final String WORDS = "tide wish bill raft bars quarrel or and not minute wind moon rank swim fear bag high level with other wet moves crabs doors ";
        /** Which names a clause may use, a bit for each, by the clause's kind. */
        static final int[] ALLOWED = {0x7, 0x3F9, 0x3848, 0x4000, 0x3F9, 0x429};

        final Text draft = new Text();
        int length = 0;
        boolean hasRead = false;
        int wrong = 0;
        int place = NONE;
        private final int[] tape = new int[MOST_BYTES];
        private final int[] kinds = new int[MOST_BYTES + 1];
        private final int[] places = new int[MOST_BYTES + 1];
        private final int[] numbers = new int[MOST_BYTES + 1];
        private int now = 0;
        private int opened = 0;
        private int names = 0;
        private int onceSeen = 0;

        boolean hasRoom(int more) {
            return length + more <= MOST_BYTES;
        }

        void addFour(int bytes) {
            for (int shift = 24; shift >= 0; shift -= 8) {
                put(tape, length, bytes >>> shift & 255);
                length++;
            }
        }

        /** Reads the tape into the draft and empties it. */
        void read() {
            cutTokens();
            hasRead = true;
            wrong = 0;
            place = NONE;
            now = 0;
            opened = 0;
            onceSeen = 0;
            draft.clear();
            for (int i = 0; i <= MOST_BYTES && wrong == 0 && at(kinds, now) != NOTHING_MORE; i++) {
                readClause();
            }
            length = 0;
        }

        private void cutTokens() {
            int tokens = 0;
            int behind = 0;
            for (int i = 0; i < length; i++) {
                int sign = at(tape, i);
                if (i < behind || sign == ' ' || sign == '\n') {
                    continue;
                }
                behind = behindToken(i);
                put(kinds, tokens, kindOf(i, behind));
                put(places, tokens, i);
                put(numbers, tokens, numberOf(i, behind));
                tokens++;
            }
            put(kinds, tokens, NOTHING_MORE);
            put(places, tokens, length);
        }

        private int behindToken(int from) {
            int sign = at(tape, from);
            boolean letters = isLetter(sign);
            if (!letters && !isDigit(sign)) {
                boolean twice = (sign == '<' || sign == '>') && from + 1 < length
                    && at(tape, from + 1) == '=';
                return twice ? from + 2 : from + 1;
            }
            for (int i = from; i < length; i++) {
                boolean same = letters ? isLetter(at(tape, i)) : isDigit(at(tape, i));
                if (!same) {
                    return i;
                }
            }
            return length;
        }

        private static boolean isLetter(int sign) {
            return within(sign, 'a', 'z') || within(sign, 'A', 'Z');
        }

        private static boolean isDigit(int sign) {
            return within(sign, '0', '9');
        }

        private int kindOf(int from, int behind) {
            int sign = at(tape, from);
            if (isLetter(sign)) {
                return wordKind(from, behind);
            }
            if (isDigit(sign)) {
                return NUMBER;
            }
            switch (sign) {
                case '<':
                    return behind - from == 2 ? LESS_OR_LIKE : LESS;
                case '>':
                    return behind - from == 2 ? MORE_OR_LIKE : MORE;
                case '=':
                    return LIKE;
                case '#':
                    return UNLIKE;
                case '+':
                    return ADD;
                case '-':
                    return SUB;
                case '*':
                    return MUL;
                case '/':
                    return DIV;
                case '(':
                    return OPEN;
                case ')':
                    return CLOSE;
                case ';':
                    return STOP;
                default:
                    return STRANGE;
            }
        }

        private int wordKind(int from, int behind) {
            int kind = FIRST_WORD;
            int begins = 0;
            for (int i = 0; i < WORDS.length(); i++) {
                if (WORDS.charAt(i) == ' ') {
                    if (i - begins == behind - from && isWord(begins, i, from)) {
                        return kind;
                    }
                    kind++;
                    begins = i + 1;
                }
            }
            return STRANGE;
        }

        /** Whether the bytes from a place on are what WORDS has from begins to ends. */
        private boolean isWord(int begins, int ends, int from) {
            for (int i = begins; i >= 0 && i < ends && i < WORDS.length(); i++) {
                if (WORDS.charAt(i) != at(tape, from + i - begins)) {
                    return false;
                }
            }
            return true;
        }

        /** The number that digits tell; one more than the greatest for all that are too great. */
        private int numberOf(int from, int behind) {
            int number = 0;
            for (int i = from; i < behind; i++) {
                number = Math.min(MOST_NUMBER + 1, number * 10 + at(tape, i) - '0');
            }
            return number;
        }

        private void blame(int fault) {
            if (wrong == 0) {
                wrong = fault;
                place = now >= 0 && now < places.length ? places[now] : NONE;
            }
        }

        private void readClause() {
            int kind = at(kinds, now) - FIRST_WORD;
            boolean once = kind < BARS;
            if (kind < 0 || kind > QUARREL || kind >= ALLOWED.length) {
                blame(1);
            } else if (once && hasBit(onceSeen, kind)) {
                blame(4);
            } else if (draft.clauses >= MOST_CLAUSES) {
                blame(6);
            } else {
                onceSeen = onceSeen | 1 << kind;
                names = ALLOWED[kind];
                draft.open(kind);
                now++;
                if (once) {
                    readSum();
                } else {
                    readEither();
                }
                if (at(kinds, now) != STOP) {
                    blame(1);
                }
                draft.close();
                now++;
            }
        }

        /** Asks joined by and, those joined by or. */
        private void readEither() {
            boolean either = false;
            boolean both = false;
            for (int i = 0; i <= MOST_BYTES && wrong == 0; i++) {
                readAsk();
                if (both) {
                    draft.add(OPERATORS + AND);
                }
                both = at(kinds, now) == AND;
                if (!both) {
                    if (either) {
                        draft.add(OPERATORS + OR);
                    }
                    either = at(kinds, now) == OR;
                }
                if (!both && !either) {
                    return;
                }
                now++;
            }
        }

        private void readAsk() {
            int nots = 0;
            for (int i = 0; i <= MOST_OPEN && at(kinds, now) == NOT; i++) {
                if (opened >= MOST_OPEN) {
                    blame(3);
                    return;
                }
                opened++;
                nots++;
                now++;
            }
            readSum();
            int relation = at(kinds, now);
            if (!within(relation, LESS, UNLIKE)) {
                blame(1);
            }
            if (wrong != 0) {
                return;
            }
            now++;
            readSum();
            draft.add(OPERATORS + relation);
            for (int i = 0; i < nots; i++) {
                draft.add(OPERATORS + NOT);
            }
            opened -= nots;
        }

        private void readSum() {
            int adding = 0;
            int scaling = 0;
            for (int i = 0; i <= MOST_BYTES && wrong == 0; i++) {
                readOne();
                if (scaling != 0) {
                    draft.add(OPERATORS + scaling);
                }
                int next = at(kinds, now);
                scaling = next == MUL || next == DIV ? next : 0;
                if (scaling == 0) {
                    if (adding != 0) {
                        draft.add(OPERATORS + adding);
                    }
                    adding = next == ADD || next == SUB ? next : 0;
                }
                if (scaling == 0 && adding == 0) {
                    return;
                }
                now++;
            }
        }

        private void readOne() {
            int minuses = 0;
            for (int i = 0; i <= MOST_OPEN && at(kinds, now) == SUB; i++) {
                if (opened >= MOST_OPEN) {
                    blame(3);
                    return;
                }
                opened++;
                minuses++;
                now++;
            }
            int kind = at(kinds, now);
            if (kind == OPEN && opened >= MOST_OPEN) {
                blame(3);
            } else if (kind == OPEN) {
                opened++;
                now++;
                readSum();
                if (at(kinds, now) != CLOSE) {
                    blame(1);
                }
                opened--;
            } else if (kind == NUMBER && at(numbers, now) > MOST_NUMBER) {
                blame(2);
            } else if (kind == NUMBER) {
                draft.add(at(numbers, now));
            } else if (kind < FIRST_NAME) {
                blame(1);
            } else if (!hasBit(names, kind - FIRST_NAME)) {
                blame(5);
            } else {
                draft.add(OPERATORS + kind);
            }
            now++;
            for (int i = 0; i < minuses; i++) {
                draft.add(OPERATORS + NEGATE);
            }
            opened -= minuses;
        }
    }

    /** The texts, and what THE TEXT says of the house. */
    private static final class Laws {
        /** No wish is so low. */
        static final int BARRED = -2000000;
        private static final int UNKNOWN = -1;
        private static final int MOST = 1000000;
        /** Eight brackets, two waiting in each, and what asks wait for: 24 are enough. */
        private static final int STACK = 32;

        private final House house;
        private final Text[] texts = new Text[MOST_TEXTS];
        private final int[] levels = new int[MINUTES];
        private final int[] values = new int[NAMES];
        private final int[] stack = new int[STACK];

        Laws(House of) {
            house = of;
            for (int i = 0; i < texts.length; i++) {
                texts[i] = new Text();
            }
            Arrays.fill(levels, UNKNOWN);
        }

        /** Levels are kept once they are known; whatever a tide clause looks at makes them new. */
        void forgetLevels() {
            Arrays.fill(levels, UNKNOWN);
        }

        Text textAt(int i) {
            return i >= 0 && i < texts.length ? texts[i] : null;
        }

        int levelAt(int minute) {
            if (minute < 0 || minute >= levels.length) {
                return 0;
            }
            if (levels[minute] == UNKNOWN) {
                int told = at(values, MINUTE);
                put(values, MINUTE, minute);
                put(values, WIND, house.wind);
                put(values, MOON, house.moon);
                int without = 90 - Math.abs(minute % 720 - 360) / 4;
                levels[minute] = reckon(TIDE, 999, without);
                put(values, MINUTE, told);
            }
            return levels[minute];
        }

        /** Wishes, bars and quarrels are asked at this minute from now on. */
        void standAt(int minute) {
            int level = levelAt(minute);
            put(values, MINUTE, minute);
            put(values, LEVEL, level);
        }

        /** What a guest's wish for a perch is at which so many sit already; BARRED if it is. */
        int wishOf(int g, int perch, int with) {
            Guest one = house.guestAt(g);
            int wish = house.highOf(perch);
            Text law = textAt(house.lawText);
            if (one == null || law == null) {
                return wish;
            }
            put(values, RANK, one.rank);
            put(values, SWIM, one.swims ? 1 : 0);
            put(values, FEAR, one.fear);
            put(values, BAG, one.bag);
            put(values, HIGH, house.highOf(perch));
            put(values, WITH, with);
            for (int c = 0; c < law.clauses && c < MOST_CLAUSES; c++) {
                int kind = at(law.kinds, c);
                if (kind == BARS && run(law, c) != 0) {
                    return BARRED;
                }
                if (kind == WISH) {
                    wish = run(law, c);
                }
            }
            return wish;
        }

        /** Whether one guest quarrels with another by his side. */
        boolean quarrels(int g, int with) {
            Guest one = house.guestAt(g);
            Guest rival = house.guestAt(with);
            Text law = textAt(house.lawText);
            if (one == null || rival == null || law == null) {
                return false;
            }
            put(values, RANK, one.rank);
            put(values, FEAR, one.fear);
            put(values, RIVAL, rival.rank);
            for (int c = 0; c < law.clauses && c < MOST_CLAUSES; c++) {
                if (at(law.kinds, c) == QUARREL && run(law, c) != 0) {
                    return true;
                }
            }
            return false;
        }

        int billOf(int g) {
            Guest one = house.guestAt(g);
            Night latest = house.latest;
            if (one == null || !hasBit(latest.hereBits, g)) {
                return 0;
            }
            int wet = at(latest.wet, g);
            put(values, RANK, one.rank);
            put(values, BAG, one.bag);
            put(values, WET, wet);
            put(values, MOVES, at(latest.moves, g));
            put(values, CRABS, one.crabs);
            return reckon(BILL, 999999, (wet + 59) / 60 * 10 + one.crabs);
        }

        /** What a raft of so many doors bears. */
        int bears(int doors) {
            put(values, DOORS, doors);
            return reckon(RAFT, 99999, 100 * doors);
        }

        /** What the clause of a kind says, from 0 to a most; what holds without one. */
        private int reckon(int kind, int most, int without) {
            Text law = textAt(house.lawText);
            int clause = law == null ? NONE : law.clauseOf(kind);
            if (clause == NONE) {
                return without;
            }
            return Math.max(0, Math.min(most, run(law, clause)));
        }

        private int run(Text law, int clause) {
            int top = 0;
            int ends = Math.min(at(law.ends, clause), law.code.length);
            for (int i = Math.max(0, at(law.starts, clause)); i < ends; i++) {
                int sign = law.code[i];
                int kind = sign - OPERATORS;
                if (kind < 0) {
                    put(stack, top, sign);
                    top++;
                } else if (kind >= FIRST_NAME) {
                    put(stack, top, at(values, kind - FIRST_NAME));
                    top++;
                } else if (kind == NEGATE) {
                    put(stack, top - 1, -at(stack, top - 1));
                } else if (kind == NOT) {
                    put(stack, top - 1, 1 - at(stack, top - 1));
                } else {
                    top--;
                    put(stack, top - 1, joined(kind, at(stack, top - 1), at(stack, top)));
                }
            }
            return at(stack, 0);
        }

        private static int joined(int kind, int a, int b) {
            long result = 0L;
            switch (kind) {
                case ADD:
                    result = (long) a + b;
                    break;
                case SUB:
                    result = (long) a - b;
                    break;
                case MUL:
                    result = (long) a * b;
                    break;
                case DIV:
                    result = b == 0 ? 0L : (long) a / b;
                    break;
                case LESS:
                    return a < b ? 1 : 0;
                case LESS_OR_LIKE:
                    return a <= b ? 1 : 0;
                case MORE:
                    return a > b ? 1 : 0;
                case MORE_OR_LIKE:
                    return a >= b ? 1 : 0;
                case LIKE:
                    return a == b ? 1 : 0;
                case UNLIKE:
                    return a != b ? 1 : 0;
                case OR:
                    return a | b;
                case AND:
                    return a & b;
                default:
                    return 0;
            }
            return (int) Math.max(-MOST, Math.min(MOST, result));
        }
    }

    /** Who sits where: one seating at a time, a night of them, and those that a book tells of. */
    private static final class Seats {
        private static final int MOST_ROOM = 4;
        private static final int SETS = 1 << MOST_GUESTS;

        private final House house;
        private final Laws laws;
        private final int[] used = new int[MOST_PERCHES];
        private final int[] place = new int[MOST_GUESTS];
        private final int[] before = new int[MOST_GUESTS];
        /** Wishes asked at the minute turned to; those of another minute have an older stamp. */
        private final int[] wishes = new int[MOST_GUESTS * MOST_PERCHES * MOST_ROOM];
        private final int[] stamps = new int[MOST_GUESTS * MOST_PERCHES * MOST_ROOM];
        private int stamp = 0;
        private final int[] ruledOut = new int[SETS];

        Seats(House of, Laws by) {
            house = of;
            laws = by;
        }

        void turnTo(int minute) {
            laws.standAt(minute);
            stamp++;
        }

        /** Seats a set of guests at the minute turned to. */
        void seatAll(int set) {
            Arrays.fill(used, 0);
            Arrays.fill(place, NONE);
            for (int i = 0; i < house.guests; i++) {
                int g = at(house.order, i);
                if (hasBit(set, g)) {
                    int perch = chosenBy(g);
                    put(place, g, perch);
                    put(used, perch, at(used, perch) + 1);
                }
            }
        }

        int placeOf(int g) {
            return at(place, g);
        }

        private int chosenBy(int g) {
            int best = NONE;
            int most = 0;
            for (int p = 0; p < house.perches; p++) {
                int with = at(used, p);
                if (with >= at(house.rooms, p)) {
                    continue;
                }
                int wish = wishFor(g, p, with);
                if (wish != Laws.BARRED && (best == NONE || wish > most)) {
                    best = p;
                    most = wish;
                }
            }
            return best;
        }

        private int wishFor(int g, int perch, int with) {
            int i = (g * MOST_PERCHES + perch) * MOST_ROOM + with;
            if (at(stamps, i) != stamp) {
                put(wishes, i, laws.wishOf(g, perch, with));
                put(stamps, i, stamp);
            }
            return at(wishes, i);
        }

        /** A night from a minute to another, those here being seated every so many minutes. */
        void pass(int from, int to, int every) {
            Night night = house.latest;
            int here = house.bitsHere();
            night.begin(here);
            int next = from;
            for (int minute = from; minute <= to; minute++) {
                if (minute == next) {
                    turnTo(minute);
                    seatAll(here);
                    note(night);
                    next += every;
                }
                soak(night, minute);
            }
        }

        private void note(Night night) {
            for (int g = 0; g < house.guests; g++) {
                if (hasBit(night.hereBits, g)) {
                    if (night.times > 0 && at(before, g) != at(place, g)) {
                        put(night.moves, g, at(night.moves, g) + 1);
                    }
                    night.keepPlace(g, at(place, g));
                    put(before, g, at(place, g));
                }
            }
            night.quarrels += quarrelsNow(night.hereBits);
            night.times++;
        }

        private int quarrelsNow(int here) {
            int count = 0;
            for (int a = 0; a < house.guests; a++) {
                if (!hasBit(here, a) || at(place, a) == NONE) {
                    continue;
                }
                for (int b = a + 1; b < house.guests; b++) {
                    boolean together = hasBit(here, b) && at(place, b) == at(place, a);
                    if (together && (laws.quarrels(a, b) || laws.quarrels(b, a))) {
                        count++;
                    }
                }
            }
            return count;
        }

        private void soak(Night night, int minute) {
            int level = laws.levelAt(minute);
            for (int g = 0; g < house.guests; g++) {
                Guest one = house.guestAt(g);
                int high = house.highOf(at(place, g));
                if (one == null || !hasBit(night.hereBits, g) || level <= high) {
                    continue;
                }
                put(night.wet, g, at(night.wet, g) + 1);
                if (level > high + one.nose) {
                    put(night.under, g, at(night.under, g) + 1);
                }
            }
        }

        /** Rules out each set of guests of which a line of the book is not so. */
        void sift() {
            Book book = house.book;
            Arrays.fill(ruledOut, 0);
            for (int i = 0; i < book.lines; i++) {
                int g = at(book.guests, i);
                turnTo(at(book.minutes, i));
                for (int set = 0; set < setCount(); set++) {
                    if (at(ruledOut, set) != 0) {
                        continue;
                    }
                    seatAll(set);
                    if (!hasBit(set, g) || at(place, g) != at(book.perches, i)) {
                        put(ruledOut, set, 1);
                    }
                }
            }
        }

        private int setCount() {
            return 1 << Math.max(0, Math.min(MOST_GUESTS, house.guests));
        }

        /** Of the sets left: 0 how many, 1 the lowest, 2 who is in all, 3 who in some. */
        int siftedOf(int what) {
            int count = 0;
            int lowest = 0;
            int inAll = SETS - 1;
            int inSome = 0;
            for (int set = 0; set < setCount(); set++) {
                if (at(ruledOut, set) == 0) {
                    lowest = count == 0 ? set : lowest;
                    count++;
                    inAll = inAll & set;
                    inSome = inSome | set;
                }
            }
            switch (what) {
                case 0:
                    return count;
                case 1:
                    return lowest;
                case 2:
                    return count == 0 ? 0 : inAll;
                default:
                    return inSome;
            }
        }
    }

    /** How one guest gets to the shore, alone or led. */
    private static final class Leaving {
        /** From this level on nobody can be anywhere: no height and wading together reach it. */
        private static final int TOO_DEEP = 130;

        private final Bank bank;
        private final Laws laws;
        /** The cells that the guest can be in, by level. */
        private final long[] footing = new long[TOO_DEEP];
        private final long[] reached = new long[MOST_CELLS + 1];
        private final int[] far = new int[MOST_CELLS];
        private final long[] share = new long[MOST_CELLS];
        private final long[] next = new long[MOST_CELLS];
        private int pace = 1;

        Leaving(Bank on, Laws by) {
            bank = on;
            laws = by;
        }

        void begin(Guest one) {
            pace = one.pace;
            for (int level = 0; level < footing.length; level++) {
                long set = 0L;
                for (int c = 0; c < bank.cells; c++) {
                    if (level <= bank.heightOf(c) + one.wades) {
                        set = set | 1L << c;
                    }
                }
                footing[level] = set;
            }
        }

        /** The cells that the guest can be in at a minute; none behind the last minute. */
        private long footingAt(int minute) {
            if (!isMinute(minute)) {
                return 0L;
            }
            int level = laws.levelAt(minute);
            return level >= 0 && level < footing.length ? footing[level] : 0L;
        }

        /** The fewest steps of a way; reached has where they may lead. */
        int stepsFrom(int m) {
            long set = 1L << bank.innCell;
            reached[0] = set;
            for (int k = 0; k < reached.length && k <= bank.cells && set != 0L; k++) {
                if (k > 0) {
                    set = bank.besides(set) & footingAt(m + k * pace);
                    reached[k] = set;
                }
                if ((set & bank.shores) != 0L) {
                    return k;
                }
            }
            return NONE;
        }

        /** The k-th cell of the lowest of the ways that stepsFrom found. */
        int stepOf(int steps, int k) {
            if (k < 0 || k >= steps || steps >= reached.length) {
                return NONE;
            }
            reached[steps] = reached[steps] & bank.shores;
            for (int i = steps - 1; i >= 0; i--) {
                reached[i] = reached[i] & bank.besides(reached[i + 1]);
            }
            long from = reached[0];
            for (int i = 1; i <= k + 1; i++) {
                from = Long.lowestOneBit(bank.besides(from) & reached[i]);
            }
            return Long.numberOfTrailingZeros(from);
        }

        int latestStart() {
            for (int m = MINUTES - 1; m >= 0; m--) {
                if (stepsFrom(m) != NONE) {
                    return m;
                }
            }
            return NONE;
        }

        /** Thousandths of those whom a pilot leads from a minute on that are in shore then. */
        int thousandthsSafe(int m, int drunk, int steps) {
            int start = bank.innCell;
            if (bank.shores == 0L || start < 0 || start >= share.length) {
                return 0;
            }
            measure();
            Arrays.fill(share, 0L);
            share[start] = 1L;
            long whole = 1L;
            for (int k = 1; k <= steps; k++) {
                Arrays.fill(next, 0L);
                long safe = footingAt(m + k * pace);
                for (int c = 0; c < bank.cells && c < share.length; c++) {
                    lead(c, drunk, safe);
                }
                System.arraycopy(next, 0, share, 0, share.length);
                whole *= 12L;
            }
            long ashore = 0L;
            for (int c = 0; c < bank.cells && c < share.length; c++) {
                ashore += bank.isShore(c) ? share[c] : 0L;
            }
            return whole > 0L ? (int) (ashore * 1000L / whole) : 0;
        }

        /** How many steps each cell is from the next shore, whatever the water. */
        private void measure() {
            long seen = bank.shores;
            long edge = seen;
            Arrays.fill(far, 0);
            for (int steps = 1; steps <= bank.cells && edge != 0L; steps++) {
                edge = bank.besides(edge) & ~seen;
                seen = seen | edge;
                for (int c = 0; c < bank.cells; c++) {
                    if ((edge >> c & 1L) == 1L) {
                        put(far, c, steps);
                    }
                }
            }
        }

        /** Hands on the share of a cell in parts of twelve. */
        private void lead(int c, int drunk, long safe) {
            if (c < 0 || c >= share.length || c >= next.length || share[c] == 0L) {
                return;
            }
            if (bank.isShore(c)) {
                next[c] += 12L * share[c];
                return;
            }
            int aim = aimFrom(c);
            for (int side = 0; side < 4; side++) {
                int to = bank.beside(c, side);
                long parts = to != NONE && to == aim ? 12L - 3L * drunk : drunk;
                int comes = to == NONE ? c : to;
                if (comes >= 0 && comes < next.length && (safe >> comes & 1L) == 1L) {
                    next[comes] += parts * share[c];
                }
            }
        }

        private int aimFrom(int c) {
            for (int side = 0; side < 4; side++) {
                int to = bank.beside(c, side);
                if (to != NONE && at(far, to) < at(far, c)) {
                    return to;
                }
            }
            return NONE;
        }
    }

    /** Perches given, the hatch, and rafts of doors. */
    private static final class Rescue {
        private static final int FLOOR = 8;
        private static final int MOST_DOORS = 20;
        /** More doors than any horses can need. */
        private static final int TOO_MANY = 1000;
        private static final int HORSE_SETS = 1 << MOST_HORSES;

        private final House house;
        private final Laws laws;
        private final Seats seats;
        private final int[] roomLeft = new int[MOST_PERCHES];
        private int dryLeft = 0;
        private final int[] ends = new int[MOST_GUESTS];
        private final int[] queue = new int[MOST_GUESTS];
        private int queued = 0;
        private final int[] borne = new int[MOST_DOORS + 1];
        private final int[] oneRaft = new int[HORSE_SETS];
        private final int[] fewest = new int[HORSE_SETS];

        Rescue(House of, Laws by, Seats in) {
            house = of;
            laws = by;
            seats = in;
        }

        /** What is wet in all (guest NONE), or the place given to a guest. */
        int deal(int minute, int guest) {
            int level = laws.levelAt(minute);
            int rest = house.bitsHere();
            countRoom(level);
            int wet = leastWet(rest, dryLeft);
            if (guest == NONE) {
                return wet;
            }
            for (int g = 0; g < house.guests; g++) {
                if (!hasBit(rest, g)) {
                    continue;
                }
                rest = rest & ~(1 << g);
                int place = placeFor(g, rest, level, wet);
                if (g == guest) {
                    return place;
                }
                boolean dry = house.highOf(place) >= level;
                wet -= dry ? 0 : worthOf(1 << g);
                dryLeft -= dry ? 1 : 0;
                put(roomLeft, place, at(roomLeft, place) - 1);
            }
            return NONE;
        }

        /** Where nothing is wet, the floor is as dry as the perches and has room for all. */
        private void countRoom(int level) {
            dryLeft = level <= 0 ? MOST_GUESTS : 0;
            for (int p = 0; p < MOST_PERCHES; p++) {
                int room = p < house.perches ? at(house.rooms, p) : 0;
                put(roomLeft, p, room);
                if (house.highOf(p) >= level) {
                    dryLeft += room;
                }
            }
        }

        /** RANK + 1 of those of a set, together, for whom no dry room is left. */
        private int leastWet(int set, int dryRoom) {
            int dry = dryRoom;
            int wet = 0;
            for (int i = 0; i < house.guests; i++) {
                int g = at(house.order, i);
                if (hasBit(set, g)) {
                    wet += dry > 0 ? 0 : worthOf(1 << g);
                    dry--;
                }
            }
            return wet;
        }

        /** The lowest place with which no more than so much is wet, the rest taking what is left. */
        private int placeFor(int g, int rest, int level, int wet) {
            for (int p = 0; p < house.perches; p++) {
                if (at(roomLeft, p) <= 0) {
                    continue;
                }
                boolean dry = house.highOf(p) >= level;
                int own = dry ? 0 : worthOf(1 << g);
                if (own + leastWet(rest, dry ? dryLeft - 1 : dryLeft) <= wet) {
                    return p;
                }
            }
            return FLOOR;
        }

        /** RANK + 1 of a set of guests, together. */
        int worthOf(int set) {
            int worth = 0;
            for (int g = 0; g < house.guests; g++) {
                Guest one = house.guestAt(g);
                if (one != null && hasBit(set, g)) {
                    worth += one.rank + 1;
                }
            }
            return worth;
        }

        /** Those saved of those here, who are seated from a minute on as they are now. */
        int getOut(int m) {
            int here = house.bitsHere();
            findEnds(here, m);
            lineUp(here);
            int best = 0;
            int most = 0;
            for (int set = 1; set <= here; set++) {
                int worth = worthOf(set);
                if ((set & ~here) == 0 && worth > most && canAllGetOut(set, m)) {
                    best = set;
                    most = worth;
                }
            }
            return best;
        }

        private void findEnds(int here, int m) {
            Arrays.fill(ends, MINUTES);
            int waiting = here;
            for (int t = m; t < MINUTES && waiting != 0; t++) {
                int level = laws.levelAt(t);
                for (int g = 0; g < house.guests; g++) {
                    Guest one = house.guestAt(g);
                    boolean waits = one != null && hasBit(waiting, g);
                    if (waits && level > house.highOf(seats.placeOf(g)) + one.nose) {
                        put(ends, g, t);
                        waiting = waiting & ~(1 << g);
                    }
                }
            }
        }

        /** Puts those here into the queue by end, of like ends by number. */
        private void lineUp(int here) {
            queued = 0;
            for (int g = 0; g < house.guests; g++) {
                if (!hasBit(here, g)) {
                    continue;
                }
                int place = queued;
                for (int i = queued; i > 0; i--) {
                    if (at(ends, at(queue, i - 1)) <= at(ends, g)) {
                        break;
                    }
                    put(queue, i, at(queue, i - 1));
                    place = i - 1;
                }
                put(queue, place, g);
                queued++;
            }
        }

        private boolean canAllGetOut(int set, int m) {
            int time = m;
            for (int i = 0; i < queued; i++) {
                int g = at(queue, i);
                Guest one = house.guestAt(g);
                if (one == null || !hasBit(set, g)) {
                    continue;
                }
                time += 1 + one.bag;
                if (time > at(ends, g)) {
                    return false;
                }
            }
            return true;
        }

        int fewestDoors() {
            for (int d = 1; d <= MOST_DOORS; d++) {
                put(borne, d, laws.bears(d));
            }
            int sets = 1 << Math.max(0, Math.min(MOST_HORSES, house.horses));
            put(fewest, 0, 0);
            for (int set = 1; set < sets; set++) {
                put(oneRaft, set, doorsForAll(set));
                put(fewest, set, fewestFor(set));
            }
            int doors = at(fewest, sets - 1);
            return doors < TOO_MANY ? doors : NONE;
        }

        /** The doors of one raft that bears a set of horses. */
        private int doorsForAll(int set) {
            int weight = 0;
            for (int i = 0; i < house.horses; i++) {
                weight += hasBit(set, i) ? at(house.weights, i) : 0;
            }
            for (int d = 1; d <= MOST_DOORS; d++) {
                if (at(borne, d) >= weight) {
                    return d;
                }
            }
            return TOO_MANY;
        }

        /** The lowest horse goes with some of the set, the others of it as cheaply as they can. */
        private int fewestFor(int set) {
            int lowest = set & -set;
            int doors = TOO_MANY;
            for (int part = 1; part <= set; part++) {
                if ((part & ~set) == 0 && (part & lowest) != 0) {
                    doors = Math.min(doors, at(oneRaft, part) + at(fewest, set & ~part));
                }
            }
            return doors;
        }
    }
}
