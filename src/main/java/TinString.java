/** A street with tins and strings; the document ../shared/DOC.md says by promises what each call does. */
public final class TinString {
    public static final int NONE = -1;
    public static final int RANGE = -2;
    public static final int FULL = -3;
    public static final int STATE = -4;

    private static final int NO_PULL = -2000000000;
    private static final int SLOTS = 3;
    private static final int EARS = 4;

    private final Tape tape;
    private final Line string;
    private final Ear ear;
    private final Wishes wishes;
    private final Book book;
    private final Row row;
    private final Row[] slots;
    private final int[] numbers;
    // Two streets by turns: a text with a fault must leave the told one as it is.
    private Street now;
    private Street next;
    private int faultKind;
    private int faultPlace;

    public TinString() {
        tape = new Tape();
        now = new Street();
        next = new Street();
        string = new Line();
        ear = new Ear();
        wishes = new Wishes();
        book = new Book();
        row = new Row();
        slots = new Row[SLOTS];
        for (int i = 0; i < SLOTS; i++) {
            slots[i] = new Row();
        }
        numbers = new int[Taps.MOST];
        faultKind = Street.NO_FAULT;
        faultPlace = NONE;
        row.lay(Row.FEWEST);
    }

    private static boolean within(int v, int low, int high) {
        return v >= low && v <= high;
    }

    private boolean isOne(int kind, int k) {
        return within(k, 0, now.many[kind] - 1);
    }

    private static boolean isBand(int b) {
        return within(b, 0, Street.BANDS - 1);
    }

    private boolean lineLacks() {
        return now.many[Street.STUFF] == 0 || now.many[Street.TIN] == 0;
    }

    private int allWords() {
        return (1 << now.many[Street.WORD]) - 1;
    }

    // ---- the tape

    public int feed(int a, int b, int c, int d, int e) {
        if (tape.size + Tape.FED > Tape.ROOM) {
            return FULL;
        }
        tape.put(a);
        tape.put(b);
        tape.put(c);
        tape.put(d);
        tape.put(e);
        return tape.size;
    }

    public int end(int n) {
        if (!within(n, 0, tape.size)) {
            return NONE;
        }
        tape.size = n;
        return n;
    }

    // ---- the street

    public int street() {
        faultKind = next.read(tape);
        faultPlace = faultKind == Street.NO_FAULT ? NONE : tape.start;
        tape.size = 0;
        if (faultKind != Street.NO_FAULT) {
            return NONE;
        }
        Street old = now;
        now = next;
        next = old;
        string.begin();
        book.begin();
        wishes.begin();
        return now.clauses;
    }

    public int fault(int what) {
        if (what == 0) {
            return faultKind;
        }
        return what == 1 ? faultPlace : NONE;
    }

    public int told(int what) {
        if (within(what, Street.STUFF, Street.LOOP)) {
            return now.many[what];
        }
        if (within(what, Street.WET, Street.NOISE)) {
            return now.number(what, 0, 0);
        }
        if (within(what, 10, 19) && isOne(Street.STUFF, what - 10)) {
            return now.number(Street.STUFF, what - 10, 0);
        }
        if (within(what, 20, 29) && isOne(Street.LOOP, what - 20)) {
            return now.number(Street.LOOP, what - 20, 0);
        }
        return NONE;
    }

    public int band(int kind, int k, int b) {
        if (!within(kind, 0, 3) || !isBand(b)) {
            return RANGE;
        }
        int of = kind == 3 ? Street.LOOP : kind;
        return isOne(of, k) ? now.ofBand(of, k, b) : RANGE;
    }

    // ---- the line

    public int line(int stuff, int tin, int yards, int pull) {
        if (!isOne(Street.STUFF, stuff) || !isOne(Street.TIN, tin)) {
            return RANGE;
        }
        if (!within(yards, 1, Line.LONGEST) || !within(pull, 0, Line.HARDEST)) {
            return RANGE;
        }
        string.stuff = stuff;
        string.tin = tin;
        string.yards = yards;
        string.pull = pull;
        return 1;
    }

    public int bend(int loop) {
        if (loop != NONE && !isOne(Street.LOOP, loop)) {
            return RANGE;
        }
        if (string.bends >= Line.MOST) {
            return FULL;
        }
        string.loops[string.bends] = loop;
        string.bends++;
        return string.bends;
    }

    public int tie(int hundredth) {
        if (!within(hundredth, 0, 100)) {
            return RANGE;
        }
        if (string.ties >= Line.MOST) {
            return FULL;
        }
        string.hundredths[string.ties] = hundredth;
        string.ties++;
        return string.ties;
    }

    public int straighten() {
        int were = string.bends + string.ties;
        string.bends = 0;
        string.ties = 0;
        return were;
    }

    public int bears(int what) {
        if (!within(what, 0, 4)) {
            return RANGE;
        }
        if (now.many[Street.STUFF] == 0) {
            return STATE;
        }
        switch (what) {
            case 0:
                return string.strength(now);
            case 1:
                return string.handsOn(now);
            case 2:
                return string.snaps(now) ? 1 : 0;
            case 3:
                return string.bends;
            default:
                return string.ties;
        }
    }

    public int through(int loud, int b) {
        if (!within(loud, 0, Street.LOUDEST) || !isBand(b)) {
            return RANGE;
        }
        return lineLacks() ? STATE : string.arrives(now, loud, b);
    }

    public int share(int k, int loud, int b) {
        if (!within(k, 0, string.ties - 1) || !within(loud, 0, Street.LOUDEST) || !isBand(b)) {
            return RANGE;
        }
        return lineLacks() ? STATE : string.tiedOff(now, k, loud, b);
    }

    public int level(int word, int b) {
        if (!isOne(Street.WORD, word) || !isBand(b)) {
            return RANGE;
        }
        if (lineLacks()) {
            return STATE;
        }
        return Line.asLevel(string.arrives(now, now.ofBand(Street.WORD, word, b), b));
    }

    // ---- words

    public int table(int a, int b) {
        if (!isOne(Street.WORD, a) || !isOne(Street.WORD, b)) {
            return RANGE;
        }
        return takenFor(allWords(), a, b);
    }

    public int among(int set, int a, int b) {
        if (!within(set, 0, allWords()) || !isOne(Street.WORD, a) || !isOne(Street.WORD, b)) {
            return RANGE;
        }
        if ((set >> a & 1) == 0 || (set >> b & 1) == 0) {
            return RANGE;
        }
        return takenFor(set, a, b);
    }

    private int takenFor(int set, int a, int b) {
        if (lineLacks()) {
            return STATE;
        }
        ear.learn(now, string);
        ear.hear(a, set, ear.ways);
        return ear.ways[b];
    }

    public int longest(int word, int u, int w) {
        if (!isOne(Street.WORD, word) || !within(u, 0, Ear.MOST_WAYS) || !within(w, 1, Ear.MOST_WAYS)) {
            return RANGE;
        }
        if (lineLacks()) {
            return STATE;
        }
        int longest = NONE;
        boolean heard = false;
        ear.begin(now, string);
        for (int yards = 1; yards <= Line.LONGEST; yards++) {
            // As long as no LEVEL changes, the answer of the yard before holds.
            if (ear.goOn(now, string, 1) || yards == 1) {
                ear.hear(word, allWords(), ear.ways);
                heard = (long) ear.ways[word] * w >= (long) u * ear.allWays();
            }
            if (heard) {
                longest = yards;
            }
        }
        return longest;
    }

    public int best(int kind) {
        if (!within(kind, 0, 1)) {
            return RANGE;
        }
        if (lineLacks()) {
            return STATE;
        }
        if (now.many[Street.WORD] == 0) {
            return NONE;
        }
        return bestOf(kind == 0 ? Street.STUFF : Street.TIN, 0);
    }

    /** Tries each of a kind in the LINE, a LOOP as BEND k: that by which the least of all right ways is greatest. */
    private int bestOf(int kind, int k) {
        int as = string.change(kind, k, 0);
        int most = -1;
        int best = NONE;
        for (int i = 0; i < now.many[kind]; i++) {
            string.change(kind, k, i);
            ear.learn(now, string);
            int ways = ear.leastOf(allWords(), most);
            if (ways > most) {
                most = ways;
                best = i;
            }
        }
        string.change(kind, k, as);
        return best;
    }

    public int bestLoop(int k) {
        if (!within(k, 0, string.bends - 1)) {
            return RANGE;
        }
        if (lineLacks()) {
            return STATE;
        }
        if (now.many[Street.WORD] == 0) {
            return NONE;
        }
        return bestOf(Street.LOOP, k);
    }

    public int list(int k) {
        if (!within(k, 1, now.many[Street.WORD])) {
            return RANGE;
        }
        if (lineLacks()) {
            return STATE;
        }
        ear.learn(now, string);
        int most = -1;
        int best = NONE;
        for (int set = 1; set <= allWords(); set++) {
            if (Integer.bitCount(set) != k) {
                continue;
            }
            int ways = ear.leastOf(set, most);
            if (ways > most) {
                most = ways;
                best = set;
            }
        }
        return best;
    }

    public int said(int word, int seed) {
        if (!isOne(Street.WORD, word) || seed < 0) {
            return RANGE;
        }
        if (lineLacks()) {
            return STATE;
        }
        ear.learn(now, string);
        return ear.hearOnce(word, seed);
    }

    // ---- cells

    public int stretch(int n) {
        if (!within(n, Row.FEWEST, Row.MOST)) {
            return RANGE;
        }
        row.lay(n);
        return n;
    }

    public int cell(int i, int lets, int back) {
        if (!within(i, 0, row.cells - 1) || !within(lets, 0, 100) || !within(back, 0, 100 - lets)) {
            return RANGE;
        }
        row.lets[i] = lets;
        row.back[i] = back;
        return 1;
    }

    public int send(int side, int v) {
        if (!within(side, 0, 1) || !within(v, -Row.MOST_SENT, Row.MOST_SENT)) {
            return RANGE;
        }
        return row.pullAt(side, v);
    }

    public int tick(int n) {
        if (!within(n, 0, Row.MOST_TICKS)) {
            return RANGE;
        }
        for (int i = 0; i < n; i++) {
            row.move();
        }
        return row.ticks;
    }

    public int goes(int i, int what) {
        if (!within(i, 0, row.cells - 1)) {
            return NO_PULL;
        }
        switch (what) {
            case 0:
                return row.toRight[i];
            case 1:
                return row.toLeft[i];
            case 2:
                return row.lets[i];
            case 3:
                return row.back[i];
            default:
                return NO_PULL;
        }
    }

    public long out(int side) {
        if (!within(side, 0, 1)) {
            return NO_PULL;
        }
        return side == 0 ? row.outFirst : row.outLast;
    }

    public int keep(int slot) {
        if (!within(slot, 0, SLOTS - 1)) {
            return RANGE;
        }
        slots[slot].become(row);
        return row.ticks;
    }

    public int take(int slot) {
        if (!within(slot, 0, SLOTS - 1)) {
            return RANGE;
        }
        if (slots[slot].cells == 0) {
            return STATE;
        }
        row.become(slots[slot]);
        return row.ticks;
    }

    // ---- houses

    private boolean isPair(int a, int b) {
        return a != b && isOne(Street.HOUSE, a) && isOne(Street.HOUSE, b);
    }

    public int yards(int a, int b) {
        return isPair(a, b) ? Wishes.apart(now, a, b) : RANGE;
    }

    public int wish(int a, int b) {
        if (!isPair(a, b)) {
            return RANGE;
        }
        return wishes.add(Wishes.pairOf(Math.min(a, b), Math.max(a, b), now.many[Street.HOUSE]));
    }

    public int least(int most, int what) {
        if (!within(most, 1, 4) || !within(what, 0, 1)) {
            return RANGE;
        }
        wishes.search(now, most);
        return what == 0 ? wishes.leastYards : wishes.leastStrings;
    }

    // ---- taps

    public int taps() {
        int many = tape.readNumbers(numbers, Taps.MOST);
        return many < 1 ? NONE : Taps.together(numbers, many);
    }

    public int tapRow(int k, int what) {
        if (!within(k, 0, Taps.ROWS - 1)) {
            return RANGE;
        }
        switch (what) {
            case 0:
                return Taps.lasts(k);
            case 1:
                return Taps.length(k);
            case 2:
                return Taps.bits(k);
            default:
                return RANGE;
        }
    }

    // ---- what was written

    private boolean isStep(int told) {
        return within(told, book.latest, Book.LAST_STEP);
    }

    public int write(int told, int said, int written) {
        if (!isStep(told) || !isOne(Street.WORD, said) || !isOne(Street.WORD, written)) {
            return RANGE;
        }
        return book.lines >= Book.MOST ? FULL : book.note(told, said, written);
    }

    public int right(int told, int k, int written) {
        if (!isStep(told) || !within(k, 0, book.lines - 1) || !isOne(Street.WORD, written)) {
            return RANGE;
        }
        return book.mendings >= Book.MOST ? FULL : book.mend(told, k, written);
    }

    public int fit(int known, int what) {
        if (!within(known, 0, Book.LAST_STEP) || !within(what, 0, 2)) {
            return RANGE;
        }
        if (lineLacks()) {
            return STATE;
        }
        book.tryLaws(now, string, ear, known);
        if (what == 0) {
            return book.fitting;
        }
        return what == 1 ? book.leastLaw : book.likeliestLaw;
    }

    public int listened(int sent, int came, int slack) {
        int many = tape.readNumbers(numbers, EARS);
        if (!within(sent, 0, 99999) || !within(came, 0, 99999) || !within(slack, 0, 99999)) {
            return RANGE;
        }
        if (many != EARS) {
            return NONE;
        }
        int who = 0;
        for (int i = 0; i < EARS; i++) {
            if (numbers[i] > 100) {
                return NONE;
            }
            if (Math.abs(sent * (100 - numbers[i]) / 100 - came) <= slack) {
                who |= 1 << i;
            }
        }
        return who;
    }

    public int count(int what) {
        switch (what) {
            case 0:
                return now.clauses;
            case 1:
                return book.lines;
            case 2:
                return book.mendings;
            case 3:
                return Integer.bitCount(wishes.wished);
            case 4:
                return row.cells;
            case 5:
                return row.ticks;
            case 6:
                return tape.size;
            default:
                return NONE;
        }
    }

    /** THE TAPE, and its reading TOKEN by TOKEN. */
    private static final class Tape {
        static final int ROOM = 900;
        static final int FED = 20;
        static final int MOST_LETTERS = 8;
        static final int MOST_DIGITS = 4;

        static final int END = 0;
        static final int BAD = 1;
        static final int WORD = 2;
        static final int NUMBER = 3;
        static final int STOP = 4;

        final byte[] bytes = new byte[ROOM];
        int size;

        // The latest TOKEN: what it is, its first byte, and what is behind it.
        int kind;
        int start;
        int at;
        // Five bits a letter, none of them 0: unlike words have unlike numbers.
        long word;
        int number;

        void put(int v) {
            for (int shift = 24; shift >= 0; shift -= 8) {
                if (size < ROOM) {
                    bytes[size] = (byte) (v >> shift);
                    size++;
                }
            }
        }

        void readNext() {
            while (at < size && isBlank(bytes[at])) {
                at++;
            }
            start = at;
            word = 0;
            number = 0;
            if (at >= size) {
                kind = END;
            } else if (isLetter(bytes[at])) {
                readWord();
            } else if (isDigit(bytes[at])) {
                readNumber();
            } else {
                kind = bytes[at] == ';' ? STOP : BAD;
                at++;
            }
        }

        private void readWord() {
            while (at < size && isLetter(bytes[at])) {
                word = word * 32 + (bytes[at] - 'a' + 1);
                at++;
            }
            kind = at - start > MOST_LETTERS ? BAD : WORD;
        }

        private void readNumber() {
            while (at < size && isDigit(bytes[at])) {
                number = number * 10 + (bytes[at] - '0');
                at++;
            }
            kind = at - start > MOST_DIGITS ? BAD : NUMBER;
        }

        boolean isWord(String s) {
            if (kind != WORD || at - start != s.length()) {
                return false;
            }
            for (int i = 0; i < s.length(); i++) {
                if (bytes[start + i] != s.charAt(i)) {
                    return false;
                }
            }
            return true;
        }

        /** How many N THE TAPE is; NONE if it is anything else, or more than so many. It is empty then. */
        int readNumbers(int[] into, int most) {
            at = 0;
            int many = NONE;
            for (int i = 0; i <= most; i++) {
                readNext();
                if (kind == END) {
                    many = i;
                    break;
                }
                if (kind != NUMBER || i >= most || i >= into.length) {
                    break;
                }
                into[i] = number;
            }
            size = 0;
            return many;
        }

        private static boolean isBlank(byte c) {
            return c == 32 || c == 10;
        }

        private static boolean isLetter(byte c) {
            return c >= 'a' && c <= 'z';
        }

        private static boolean isDigit(byte c) {
            return c >= '0' && c <= '9';
        }
    }

    /** A STREET as it was told. */
    private static final class Street {
        static final int STUFF = 0;
        static final int TIN = 1;
        static final int WORD = 2;
        static final int HOUSE = 3;
        static final int POST = 4;
        static final int LOOP = 5;
        static final int WET = 6;
        static final int WIND = 7;
        static final int NOISE = 8;
        static final int KINDS = 9;

        static final int NO_FAULT = 0;
        static final int SYNTAX = 1;
        static final int OUT_OF_BOUNDS = 2;
        static final int TWICE = 3;
        static final int NO_ROOM = 4;

        static final int BANDS = 4;
        static final int LOUDEST = 9;
        static final int MOST_WORDS = 6;
        static final int MOST_NUMBERS = 5;

        // By kind: how many of it there may be, the N of a clause, the greatest N (but for SNAP).
        static final int[] MOST_OF = {4, 4, 6, 5, 4, 4, 1, 1, 1};
        static final int[] NUMBERS = {5, 4, 4, 2, 2, 5, 1, 1, 1};
        static final int[] GREATEST = {999, 100, 9, 99, 99, 9, 90, 50, 3};
        static final int MOST_SNAP = 99;

        int clauses;
        final int[] many = new int[KINDS];
        final long[][] names = new long[KINDS][MOST_WORDS];
        final int[][] values = new int[KINDS][MOST_WORDS * MOST_NUMBERS];

        Street() {
            values[NOISE][0] = 1;
        }

        int number(int kind, int k, int n) {
            return values[kind][k * MOST_NUMBERS + n];
        }

        int ofBand(int kind, int k, int b) {
            int ahead = kind == STUFF || kind == LOOP ? 1 : 0;
            return values[kind][k * MOST_NUMBERS + ahead + b];
        }

        /** Becomes what THE TAPE tells: NO_FAULT, or the FAULT's KIND; its PLACE is the TOKEN read last. */
        int read(Tape tape) {
            forget();
            tape.at = 0;
            for (int i = 0; i <= Tape.ROOM; i++) {
                tape.readNext();
                if (tape.kind == Tape.END) {
                    return NO_FAULT;
                }
                int fault = readClause(tape);
                if (fault != NO_FAULT) {
                    return fault;
                }
                clauses++;
            }
            return SYNTAX;
        }

        private void forget() {
            clauses = 0;
            for (int kind = 0; kind < KINDS; kind++) {
                many[kind] = 0;
            }
            values[WET][0] = 0;
            values[WIND][0] = 0;
            values[NOISE][0] = 1;
        }

        private int readClause(Tape tape) {
            int kind = kindOf(tape);
            if (kind == NONE) {
                return SYNTAX;
            }
            if (many[kind] >= MOST_OF[kind]) {
                return kind >= WET ? TWICE : NO_ROOM;
            }
            int fault = isNamed(kind) ? readName(tape, kind) : NO_FAULT;
            for (int n = 0; n < NUMBERS[kind] && fault == NO_FAULT; n++) {
                fault = readNumber(tape, kind, n);
            }
            if (fault != NO_FAULT) {
                return fault;
            }
            tape.readNext();
            if (tape.kind != Tape.STOP) {
                return SYNTAX;
            }
            many[kind]++;
            return NO_FAULT;
        }

        private int readName(Tape tape, int kind) {
            tape.readNext();
            if (tape.kind != Tape.WORD) {
                return SYNTAX;
            }
            for (int k = 0; k < many[kind]; k++) {
                if (names[kind][k] == tape.word) {
                    return TWICE;
                }
            }
            names[kind][many[kind]] = tape.word;
            return NO_FAULT;
        }

        private int readNumber(Tape tape, int kind, int n) {
            tape.readNext();
            if (tape.kind != Tape.NUMBER) {
                return SYNTAX;
            }
            boolean first = n == 0;
            int low = first && (kind == STUFF || kind == LOOP) ? 1 : 0;
            int high = first && kind == STUFF ? MOST_SNAP : GREATEST[kind];
            if (tape.number < low || tape.number > high) {
                return OUT_OF_BOUNDS;
            }
            int at = many[kind] * MOST_NUMBERS;
            values[kind][at + n] = tape.number;
            boolean placed = n == 1 && (kind == HOUSE || kind == POST);
            return placed && isOneAt(kind, values[kind][at], tape.number) ? TWICE : NO_FAULT;
        }

        private boolean isOneAt(int kind, int x, int y) {
            for (int k = 0; k < many[kind]; k++) {
                if (number(kind, k, 0) == x && number(kind, k, 1) == y) {
                    return true;
                }
            }
            return false;
        }

        private static boolean isNamed(int kind) {
            return kind < WET && kind != POST;
        }

        private static int kindOf(Tape tape) {
            if (tape.isWord("stuff")) {
                return STUFF;
            }
            if (tape.isWord("tin")) {
                return TIN;
            }
            if (tape.isWord("word")) {
                return WORD;
            }
            if (tape.isWord("house")) {
                return HOUSE;
            }
            if (tape.isWord("post")) {
                return POST;
            }
            if (tape.isWord("loop")) {
                return LOOP;
            }
            if (tape.isWord("wet")) {
                return WET;
            }
            if (tape.isWord("wind")) {
                return WIND;
            }
            return tape.isWord("noise") ? NOISE : NONE;
        }
    }

    /** A LINE: what comes through it. */
    private static final class Line {
        static final int LONGEST = 400;
        static final int HARDEST = 99;
        static final int MOST = 4;

        int stuff;
        int tin;
        int yards = 10;
        int pull;
        int bends;
        final int[] loops = new int[MOST];
        int ties;
        final int[] hundredths = new int[MOST];

        void begin() {
            stuff = 0;
            tin = 0;
            yards = 10;
            pull = 0;
            bends = 0;
            ties = 0;
        }

        /** Becomes of another STUFF or TIN, or has another LOOP as BEND k: which one it had. */
        int change(int kind, int k, int by) {
            int was = stuff;
            if (kind == Street.STUFF) {
                stuff = by;
            } else if (kind == Street.TIN) {
                was = tin;
                tin = by;
            } else if (k >= 0 && k < bends) {
                was = loops[k];
                loops[k] = by;
            }
            return was;
        }

        /** What it BEARS. */
        int strength(Street s) {
            int dry = s.number(Street.STUFF, stuff, 0) * (100 - s.number(Street.WET, 0, 0)) / 100;
            return Math.max(0, dry - s.number(Street.WIND, 0, 0));
        }

        boolean snaps(Street s) {
            return pull > strength(s);
        }

        int handsOn(Street s) {
            int bears = strength(s);
            if (pull == 0 || pull > bears) {
                return 0;
            }
            return 2 * pull >= bears ? 100 : 200 * pull / bears;
        }

        /** What goes into the first yard, by what the LINE HANDS ON. */
        int enters(Street s, int hands, int loud, int b) {
            int v = 1000 * loud * s.ofBand(Street.TIN, tin, b) / 100;
            return v * hands / 100;
        }

        int overYards(Street s, int v, int b, int many) {
            int kept = 1000 - s.ofBand(Street.STUFF, stuff, b);
            int left = v;
            for (int i = 0; i < many; i++) {
                left = left * kept / 1000;
            }
            return left;
        }

        /** What comes behind all BENDS and so many of the TIES. */
        private int overBends(Street s, int v, int b, int tied) {
            int left = v;
            for (int i = 0; i < bends; i++) {
                int letsBy = 0;
                if (loops[i] != NONE) {
                    int stiff = s.number(Street.LOOP, loops[i], 0);
                    letsBy = 100 - 10 * Math.abs(stiff - s.ofBand(Street.LOOP, loops[i], b));
                }
                left = left * letsBy / 100;
            }
            for (int i = 0; i < tied; i++) {
                left = left * (100 - hundredths[i]) / 100;
            }
            return left;
        }

        /** Of what is left behind the last yard, what the far TIN takes. */
        int leaves(Street s, int v, int b) {
            return overBends(s, v, b, ties) * s.ofBand(Street.TIN, tin, b) / 100;
        }

        /** THROUGH of a LOUD. */
        int arrives(Street s, int loud, int b) {
            return leaves(s, overYards(s, enters(s, handsOn(s), loud, b), b, yards), b);
        }

        /** A SHARE of TIE k. */
        int tiedOff(Street s, int k, int loud, int b) {
            int v = overYards(s, enters(s, handsOn(s), loud, b), b, yards);
            return overBends(s, v, b, k) * hundredths[k] / 100;
        }

        static int asLevel(int through) {
            return Math.min(9, through / 500);
        }
    }

    /** An EAR that knows the LEVELS of all WORDS by a LINE. */
    private static final class Ear {
        static final int MOST_WAYS = 65536;
        static final int MOST_NOISE = 3;
        static final int MOST_SOUNDS = 2 * MOST_NOISE + 1;
        static final int LOUDEST = 9;

        // What a row is off from each WORD thought of stands in one long, so many bits a
        // WORD: what two BANDS are off together is then one addition for all WORDS.
        static final int BITS = 10;
        static final int MASK = (1 << BITS) - 1;

        int words;
        int noise;
        final int[][] levels = new int[Street.MOST_WORDS][Street.BANDS];
        final int[][] pulls = new int[Street.MOST_WORDS][Street.BANDS];

        final int[] ways = new int[Street.MOST_WORDS];

        private int thought;
        private final int[] thoughtOf = new int[Street.MOST_WORDS];
        // Of each BAND: how far off what may be heard is, and the ways to it.
        private final int[] sounds = new int[Street.BANDS];
        private final long[][] offs = new long[Street.BANDS][MOST_SOUNDS];
        private final int[][] weights = new int[Street.BANDS][MOST_SOUNDS];

        /** Learns the LEVELS; whether one is not as it was. */
        boolean learn(Street s, Line line) {
            begin(s, line);
            return goOn(s, line, line.yards);
        }

        /** Takes each WORD as far as into the LINE's first yard. */
        void begin(Street s, Line line) {
            words = s.many[Street.WORD];
            noise = s.number(Street.NOISE, 0, 0);
            int hands = line.handsOn(s);
            for (int w = 0; w < words; w++) {
                for (int b = 0; b < Street.BANDS; b++) {
                    pulls[w][b] = line.enters(s, hands, s.ofBand(Street.WORD, w, b), b);
                }
            }
        }

        /** So many yards more: whether a LEVEL is not as it was. */
        boolean goOn(Street s, Line line, int yards) {
            boolean changed = false;
            for (int w = 0; w < words; w++) {
                for (int b = 0; b < Street.BANDS; b++) {
                    pulls[w][b] = line.overYards(s, pulls[w][b], b, yards);
                    int level = Line.asLevel(line.leaves(s, pulls[w][b], b));
                    changed = changed || level != levels[w][b];
                    levels[w][b] = level;
                }
            }
            return changed;
        }

        /** (noise and 1) to the eighth. */
        int allWays() {
            int squared = (noise + 1) * (noise + 1);
            return squared * squared * squared * squared;
        }

        /** Counts with how many ways WORD a is taken for each of a set, into a row by WORDS. */
        void hear(int a, int set, int[] into) {
            thinkOf(set);
            for (int w = 0; w < into.length; w++) {
                into[w] = 0;
            }
            for (int b = 0; b < Street.BANDS; b++) {
                spread(a, b);
            }
            for (int i = 0; i < sounds[0]; i++) {
                for (int j = 0; j < sounds[1]; j++) {
                    hearRest(offs[0][i] + offs[1][j], weights[0][i] * weights[1][j], into);
                }
            }
        }

        private void hearRest(long off, int weight, int[] into) {
            for (int k = 0; k < sounds[2]; k++) {
                long offBy = off + offs[2][k];
                int all = weight * weights[2][k];
                for (int l = 0; l < sounds[3]; l++) {
                    int w = nearest(offBy + offs[3][l]);
                    if (w < into.length) {
                        into[w] += all * weights[3][l];
                    }
                }
            }
        }

        /** The WORDS of a set, without those that sound as an earlier one: they are never taken. */
        private void thinkOf(int set) {
            thought = 0;
            for (int w = 0; w < words; w++) {
                if ((set >> w & 1) == 1 && !soundsAsEarlier(w)) {
                    thoughtOf[thought] = w;
                    thought++;
                }
            }
        }

        private boolean soundsAsEarlier(int w) {
            for (int i = 0; i < thought; i++) {
                int[] other = levels[thoughtOf[i]];
                int alike = 0;
                for (int b = 0; b < Street.BANDS; b++) {
                    alike += levels[w][b] == other[b] ? 1 : 0;
                }
                if (alike == Street.BANDS) {
                    return true;
                }
            }
            return false;
        }

        /** What may be heard of WORD a in a BAND; what is off alike is put together, which spares most of the work. */
        private void spread(int a, int b) {
            sounds[b] = 0;
            for (int v = -noise; v <= noise; v++) {
                long off = offFrom(b, heardWith(a, b, v));
                int at = 0;
                while (at < sounds[b] && offs[b][at] != off) {
                    at++;
                }
                if (at == sounds[b]) {
                    offs[b][at] = off;
                    weights[b][at] = 0;
                    sounds[b]++;
                }
                weights[b][at] += noise + 1 - Math.abs(v);
            }
        }

        private int heardWith(int a, int b, int v) {
            return Math.max(0, Math.min(LOUDEST, levels[a][b] + v));
        }

        /** How much further off than from the first WORD thought of, by each of them; 9 more, so that none is below 0. */
        private long offFrom(int b, int heard) {
            long off = 0;
            for (int i = thought - 1; i >= 0; i--) {
                int more = Math.abs(heard - levels[thoughtOf[i]][b]) - Math.abs(heard - levels[thoughtOf[0]][b]);
                off = (off << BITS) + more + LOUDEST;
            }
            return off;
        }

        private int nearest(long off) {
            long rest = off;
            int least = MASK + 1;
            int best = 0;
            for (int i = 0; i < thought; i++) {
                int by = (int) rest & MASK;
                if (by < least) {
                    least = by;
                    best = i;
                }
                rest >>= BITS;
            }
            return thoughtOf[best];
        }

        /** The least of the right ways of a set's WORDS; that, or something not above enough. */
        int leastOf(int set, int enough) {
            int least = MOST_WAYS;
            for (int w = 0; w < words && least > enough; w++) {
                if ((set >> w & 1) == 1) {
                    hear(w, set, ways);
                    least = Math.min(least, ways[w]);
                }
            }
            return least;
        }

        /** SAID by a seed. */
        int hearOnce(int a, int seed) {
            thinkOf((1 << words) - 1);
            long s = seed;
            long off = 0;
            for (int b = 0; b < Street.BANDS; b++) {
                s = (1103515245L * s + 12345L) % 2147483648L;
                int drawn = (int) (s / 65536 % ((noise + 1) * (noise + 1)));
                off += offFrom(b, heardWith(a, b, noiseOf(drawn)));
            }
            return nearest(off);
        }

        private int noiseOf(int drawn) {
            int left = drawn;
            for (int v = -noise; v < noise; v++) {
                left -= noise + 1 - Math.abs(v);
                if (left < 0) {
                    return v;
                }
            }
            return noise;
        }
    }

    /** A ROW of CELLS; with 0 CELLS a SLOT that is empty. */
    private static final class Row {
        static final int FEWEST = 2;
        static final int MOST = 40;
        static final int MOST_SENT = 9999;
        static final int MOST_PULL = 999999;
        static final int MOST_TICKS = 400;

        int cells;
        int ticks;
        long outFirst;
        long outLast;
        final int[] toRight = new int[MOST];
        final int[] toLeft = new int[MOST];
        final int[] lets = new int[MOST];
        final int[] back = new int[MOST];

        void lay(int n) {
            cells = n;
            ticks = 0;
            outFirst = 0;
            outLast = 0;
            for (int i = 0; i < MOST; i++) {
                toRight[i] = 0;
                toLeft[i] = 0;
                lets[i] = 100;
                back[i] = 0;
            }
        }

        void become(Row other) {
            cells = other.cells;
            ticks = other.ticks;
            outFirst = other.outFirst;
            outLast = other.outLast;
            for (int i = 0; i < MOST; i++) {
                toRight[i] = other.toRight[i];
                toLeft[i] = other.toLeft[i];
                lets[i] = other.lets[i];
                back[i] = other.back[i];
            }
        }

        private static int bounded(int v) {
            return Math.max(-MOST_PULL, Math.min(MOST_PULL, v));
        }

        int pullAt(int side, int v) {
            if (side == 0) {
                toRight[0] = bounded(toRight[0] + v);
                return toRight[0];
            }
            toLeft[cells - 1] = bounded(toLeft[cells - 1] + v);
            return toLeft[cells - 1];
        }

        /** One TICK. Either way all that comes into a CELL comes from one other, so one value is carried along. */
        void move() {
            int toNext = 0;
            for (int i = 0; i < cells; i++) {
                int fromLast = toNext;
                toNext = bounded(part(toRight[i], lets[i]) + part(toLeft[i], back[i]));
                int toBefore = bounded(part(toLeft[i], lets[i]) + part(toRight[i], back[i]));
                if (i == 0) {
                    outFirst += toBefore;
                } else {
                    toLeft[i - 1] = toBefore;
                }
                toRight[i] = fromLast;
            }
            toLeft[cells - 1] = 0;
            outLast += toNext;
            ticks++;
        }

        private static int part(int v, int hundredth) {
            return v * hundredth / 100;
        }
    }

    /** WISHES, and the LEAST STRING that grants them. */
    private static final class Wishes {
        static final int MOST_HOUSES = 5;
        static final int MOST_PAIRS = 10;
        // 99 yards along each way.
        static final int MOST_YARDS = 141;

        int wished;
        int leastYards;
        int leastStrings;
        private final int[] lengths = new int[MOST_PAIRS];
        private final int[] ends = new int[MOST_PAIRS];
        private final int[] reach = new int[MOST_HOUSES];

        void begin() {
            wished = 0;
        }

        int add(int pair) {
            wished |= 1 << pair;
            return Integer.bitCount(wished);
        }

        static int pairOf(int lesser, int other, int houses) {
            return lesser * (2 * houses - lesser - 1) / 2 + other - lesser - 1;
        }

        /** Yards of the string between two HOUSES; NONE: it is barred. */
        static int apart(Street s, int a, int b) {
            int ax = s.number(Street.HOUSE, a, 0);
            int ay = s.number(Street.HOUSE, a, 1);
            int bx = s.number(Street.HOUSE, b, 0);
            int by = s.number(Street.HOUSE, b, 1);
            for (int p = 0; p < s.many[Street.POST]; p++) {
                int px = s.number(Street.POST, p, 0) - ax;
                int py = s.number(Street.POST, p, 1) - ay;
                boolean onLine = px * (by - ay) == py * (bx - ax);
                if (onLine && isBetween(px, bx - ax) && isBetween(py, by - ay)) {
                    return NONE;
                }
            }
            int square = (bx - ax) * (bx - ax) + (by - ay) * (by - ay);
            for (int yards = 0; yards < MOST_YARDS; yards++) {
                if (yards * yards >= square) {
                    return yards;
                }
            }
            return MOST_YARDS;
        }

        private static boolean isBetween(int v, int end) {
            return v >= Math.min(0, end) && v <= Math.max(0, end);
        }

        /** Finds the LEAST STRING: leastYards and leastStrings, NONE both if there is none. */
        void search(Street s, int most) {
            int houses = s.many[Street.HOUSE];
            int pairs = 0;
            int barred = 0;
            for (int a = 0; a < houses; a++) {
                for (int b = a + 1; b < houses; b++) {
                    lengths[pairs] = apart(s, a, b);
                    ends[pairs] = 1 << a | 1 << b;
                    barred |= lengths[pairs] == NONE ? 1 << pairs : 0;
                    pairs++;
                }
            }
            leastYards = NONE;
            leastStrings = NONE;
            for (int set = 0; set < 1 << pairs; set++) {
                if ((set & barred) == 0) {
                    int yards = yardsOf(set, pairs);
                    if ((leastYards == NONE || yards < leastYards) && grants(set, pairs, houses, most)) {
                        leastYards = yards;
                        leastStrings = set;
                    }
                }
            }
        }

        private int yardsOf(int set, int pairs) {
            int yards = 0;
            for (int p = 0; p < pairs; p++) {
                yards += (set >> p & 1) == 1 ? lengths[p] : 0;
            }
            return yards;
        }

        private boolean grants(int set, int pairs, int houses, int most) {
            for (int h = 0; h < houses; h++) {
                reach[h] = reachOf(h, set, pairs, most);
            }
            for (int p = 0; p < pairs; p++) {
                if ((wished >> p & 1) == 1 && !isReached(p, houses)) {
                    return false;
                }
            }
            return true;
        }

        /** The HOUSES, as bits, that hear one over at most so many strings. */
        private int reachOf(int house, int set, int pairs, int most) {
            int reached = 1 << house;
            for (int i = 0; i < most; i++) {
                int further = reached;
                for (int p = 0; p < pairs; p++) {
                    if ((set >> p & 1) == 1 && (ends[p] & reached) != 0) {
                        further |= ends[p];
                    }
                }
                reached = further;
            }
            return reached;
        }

        private boolean isReached(int pair, int houses) {
            for (int h = 0; h < houses; h++) {
                if ((ends[pair] >> h & 1) == 1 && (reach[h] & ends[pair]) != ends[pair]) {
                    return false;
                }
            }
            return true;
        }
    }

    /** TAPS. A short one with the pause behind it is one beat, a long one two; so a row of n beats lasts 2n - 1. */
    private static final class Taps {
        static final int MOST = 16;
        static final int ROWS = 100;

        // How many rows there are of so many beats, from 0 on.
        static final int[] OF_BEATS = {1, 1, 2, 3, 5, 8, 13, 21, 34, 55};

        private Taps() {
        }

        private static int beats(int k) {
            int left = k;
            int n = 1;
            while (n < OF_BEATS.length - 1 && left >= OF_BEATS[n]) {
                left -= OF_BEATS[n];
                n++;
            }
            return n;
        }

        /** The number of ROW k among those of as many beats. */
        private static int place(int k) {
            int left = k;
            for (int n = beats(k) - 1; n >= 1; n--) {
                left -= OF_BEATS[n];
            }
            return left;
        }

        static int lasts(int k) {
            return 2 * beats(k) - 1;
        }

        static int length(int k) {
            // Each long tap has one beat more than a tap.
            return beats(k) - Integer.bitCount(bits(k));
        }

        static int bits(int k) {
            int rest = beats(k);
            int place = place(k);
            int bits = 0;
            while (rest > 0) {
                boolean isLong = place >= OF_BEATS[rest - 1];
                if (isLong) {
                    place -= OF_BEATS[rest - 1];
                }
                bits = bits * 2 + (isLong ? 1 : 0);
                rest -= isLong ? 2 : 1;
            }
            return bits;
        }

        /** LASTS together of so many weights; they are put in order. */
        static int together(int[] weights, int many) {
            int all = 0;
            for (int k = 0; k < many; k++) {
                for (int i = k + 1; i < many; i++) {
                    if (weights[i] > weights[k]) {
                        int lighter = weights[k];
                        weights[k] = weights[i];
                        weights[i] = lighter;
                    }
                }
                all += weights[k] * lasts(k);
            }
            return all;
        }
    }

    /** What was WRITTEN, what was put RIGHT, and the LAWS that FIT. */
    private static final class Book {
        static final int MOST = 20;
        static final int LAST_STEP = 999;
        static final int LAWS_OF_STUFF = 20;

        int latest;
        int lines;
        int mendings;
        private final int[] told = new int[MOST];
        private final int[] said = new int[MOST];
        private final int[] written = new int[MOST];
        private final int[] mendTold = new int[MOST];
        private final int[] mendOf = new int[MOST];
        private final int[] mendWritten = new int[MOST];

        int fitting;
        int leastLaw;
        int likeliestLaw;
        private final int[][] table = new int[Street.MOST_WORDS][Street.MOST_WORDS];
        private final Product product = new Product();
        private final Product greatest = new Product();

        void begin() {
            latest = 0;
            lines = 0;
            mendings = 0;
        }

        int note(int step, int word, int as) {
            latest = step;
            told[lines] = step;
            said[lines] = word;
            written[lines] = as;
            lines++;
            return lines - 1;
        }

        int mend(int step, int k, int as) {
            latest = step;
            mendTold[mendings] = step;
            mendOf[mendings] = k;
            mendWritten[mendings] = as;
            mendings++;
            int often = 0;
            for (int i = 0; i < mendings; i++) {
                often += mendOf[i] == k ? 1 : 0;
            }
            return often;
        }

        private int writtenAsKnown(int k, int known) {
            int as = written[k];
            for (int i = 0; i < mendings; i++) {
                if (mendOf[i] == k && mendTold[i] <= known) {
                    as = mendWritten[i];
                }
            }
            return as;
        }

        /** Finds the LAWS that FIT as known at a STEP: fitting, leastLaw, likeliestLaw. */
        void tryLaws(Street s, Line line, Ear ear, int known) {
            int stuff = line.stuff;
            int yards = line.yards;
            boolean fits = false;
            fitting = 0;
            leastLaw = NONE;
            likeliestLaw = NONE;
            for (int law = 0; law < LAWS_OF_STUFF * s.many[Street.STUFF]; law++) {
                line.stuff = law / LAWS_OF_STUFF;
                line.yards = 10 * (law % LAWS_OF_STUFF + 1);
                // With the LEVELS of the law before, its ways are the same, and it is no likelier.
                if (ear.learn(s, line) || law == 0) {
                    fits = weigh(ear, known);
                    if (fits && (likeliestLaw == NONE || product.isAbove(greatest))) {
                        likeliestLaw = law;
                        greatest.become(product);
                    }
                }
                if (fits) {
                    fitting++;
                    leastLaw = leastLaw == NONE ? law : leastLaw;
                }
            }
            line.stuff = stuff;
            line.yards = yards;
        }

        /** Whether all that is known has a way; if so, product is that of all ways. */
        private boolean weigh(Ear ear, int known) {
            int heard = 0;
            product.beOne();
            for (int k = 0; k < lines; k++) {
                if (told[k] <= known) {
                    int word = said[k];
                    if ((heard >> word & 1) == 0) {
                        heard |= 1 << word;
                        ear.hear(word, (1 << ear.words) - 1, table[word]);
                    }
                    int ways = table[word][writtenAsKnown(k, known)];
                    if (ways == 0) {
                        return false;
                    }
                    product.times(ways);
                }
            }
            return true;
        }
    }

    /** A product of at most 20 numbers up to 65536 (so 321 bits), 32 bits a part, the lowest first. */
    private static final class Product {
        static final int PARTS = 11;
        static final long LOW = 0xFFFFFFFFL;

        private final long[] parts = new long[PARTS];

        void beOne() {
            for (int i = 0; i < PARTS; i++) {
                parts[i] = 0;
            }
            parts[0] = 1;
        }

        void times(int v) {
            long carried = 0;
            for (int i = 0; i < PARTS; i++) {
                long part = parts[i] * v + carried;
                parts[i] = part & LOW;
                carried = part >>> 32;
            }
        }

        void become(Product other) {
            for (int i = 0; i < PARTS; i++) {
                parts[i] = other.parts[i];
            }
        }

        boolean isAbove(Product other) {
            for (int i = PARTS - 1; i >= 0; i--) {
                if (parts[i] != other.parts[i]) {
                    return parts[i] > other.parts[i];
                }
            }
            return false;
        }
    }
}
