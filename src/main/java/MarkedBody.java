import java.util.Arrays;

/** A body of lines kept in all kinds at once. The document tells what each call answers. */
public final class MarkedBody {
    public static final int NONE = -1000000, BAD = -1000001, STATE = -1000002, FULL = -1000003;

    private static final int FINDINGS = -1000010, FAULTS = -1000100;
    private static final int NULL = 1, PLACE = 2, KIND = 3, SIZE = 4, STORE = 5;
    private static final int SHEETS = 8, SHEET_ROOM = 40, TAPE_ROOM = 500;
    private static final int MARKS = 10, LAWS = 8, LINES = 24, BUYERS = 8, CELLS = 4;
    private static final int LAST_VERSION = 9, LAST_VALUE = 99, MODULUS = 1000, ALL_KINDS = 1 << MARKS;
    private static final int ROOT = -1, MUST = 0, MAY = 1, ONE = 2;
    private static final int PLAIN = 0, OTHER = 1, PATCH = 2;
    private static final int SET = 0, ADD = 1, SUM = 2, MUL = 3;
    private static final int LINE_KIND = 0, ALWAYS_KIND = 1, WHEN_KIND = 2, OTHER_KIND = 3, PATCH_KIND = 4,
            IDLER_KIND = 5;

    private final Sheet[] sheets = new Sheet[SHEETS];
    private final Tape tape = new Tape();
    private final Book book = new Book();
    private final Reader reader = new Reader(tape, book);
    private final Kinds kinds = new Kinds(book);
    private final Ends ends = new Ends(book, kinds);
    private final Hold hold = new Hold(book, kinds);
    private final Asks asks = new Asks(book, kinds);
    private final int[] buyerKinds = new int[BUYERS];
    private final int[] buyerVersions = new int[BUYERS];
    private int latestFault = 0;
    private int latestFinding = 0;

    public MarkedBody() {
        for (int i = 0; i < SHEETS; i++) {
            sheets[i] = new Sheet();
        }
        kinds.refresh();
    }

    // ---- sheets

    public int sheet(int sheet, int lane, int n) {
        if (!isSheet(sheet) || lane < 0 || lane > Sheet.INTS || n > SHEET_ROOM) {
            return BAD;
        }
        if (n < 0) {
            return found(SIZE);
        }
        sheets[sheet].lay(lane, n);
        return fine(n);
    }

    public int set(int sheet, int i, int v) {
        if (!isSheet(sheet)) {
            return BAD;
        }
        Sheet target = sheets[sheet];
        if (target.isMissing()) {
            return found(NULL);
        }
        if (!target.hasPlaces(i, 1)) {
            return found(PLACE);
        }
        target.items[i] = target.narrowed(v);
        return fine(target.items[i]);
    }

    public int copy(int a, int i, int b, int j, int n) {
        if (!isSheet(a) || !isSheet(b)) {
            return BAD;
        }
        Sheet source = sheets[a];
        Sheet target = sheets[b];
        if (source.isMissing() || target.isMissing()) {
            return found(NULL);
        }
        if (source.lane != target.lane) {
            return found(STORE);
        }
        if (!source.hasPlaces(i, n) || !target.hasPlaces(j, n)) {
            return found(PLACE);
        }
        System.arraycopy(source.items, i, target.items, j, n);
        return fine(n);
    }

    public int drop(int sheet) {
        if (!isSheet(sheet)) {
            return BAD;
        }
        Sheet target = sheets[sheet];
        if (target.isMissing()) {
            return found(NULL);
        }
        target.lane = Sheet.MISSING;
        return fine(target.length);
    }

    // ---- texts

    public int feed(long w, int n) {
        if (n < 1 || n > 8) {
            return BAD;
        }
        if (tape.length + n > TAPE_ROOM) {
            return FULL;
        }
        for (int i = n - 1; i >= 0; i--) {
            tape.bytes[tape.length] = (byte) (w >>> (8 * i));
            tape.length++;
        }
        return tape.length;
    }

    public int read() {
        reader.begin();
        boolean good = true;
        // Each statement takes a byte at least, so the tape's room bounds how many there are.
        for (int n = 0; n < TAPE_ROOM && good && !tape.isAtEnd(); n++) {
            good = reader.readStatement();
        }
        tape.length = 0;
        if (!good) {
            latestFault = reader.fault;
            return FAULTS - reader.place;
        }
        reader.keepAll();
        kinds.refresh();
        ends.known = false;
        hold.known = false;
        return book.lines;
    }

    public int fault() {
        return latestFault;
    }

    // ---- kinds

    public int allowed(int kind) {
        if (!book.isKind(kind)) {
            return BAD;
        }
        return kinds.allowed.has(kind) ? 1 : 0;
    }

    public int holds(int what, int number, int kind) {
        if (!book.isKind(kind)) {
            return BAD;
        }
        if (what == 0 && number >= 0 && number < book.laws) {
            return book.law[number].has(kind) ? 1 : 0;
        }
        if (what == 1 && book.isLine(number)) {
            return book.line[number].saying.has(kind) ? 1 : 0;
        }
        return BAD;
    }

    public int many() {
        return kinds.allowed.size();
    }

    public int idle(int what) {
        switch (what) {
            case 0:
                return kinds.deadMarks();
            case 1:
                return kinds.sureMarks();
            case 2:
                return kinds.idleLaws();
            default:
                return BAD;
        }
    }

    public int forced(int on, int off, int what) {
        if (!book.isChoice(on, off) || what < 0 || what > 1) {
            return BAD;
        }
        return kinds.forcedMarks(on, off, what == 0);
    }

    public int nearest(int kind) {
        if (!book.isKind(kind)) {
            return BAD;
        }
        return kinds.nearestTo(kind);
    }

    public int why(int on, int off) {
        if (!book.isChoice(on, off)) {
            return BAD;
        }
        return kinds.fewestBars(on, off);
    }

    // ---- lines

    public int version(int v) {
        if (v < book.version || v > LAST_VERSION) {
            return BAD;
        }
        int before = book.version;
        book.version = v;
        ends.known = false;
        return before;
    }

    public int end(int line) {
        if (!book.isLine(line)) {
            return BAD;
        }
        if (book.line[line].ended != NONE) {
            return STATE;
        }
        book.line[line].ended = book.version;
        ends.known = false;
        return 1;
    }

    public int line(int line, int what) {
        if (!book.isLine(line)) {
            return BAD;
        }
        Line told = book.line[line];
        switch (what) {
            case 0:
                return told.sort;
            case 1:
                return told.buyer;
            case 2:
                return told.from;
            case 3:
                return told.ended;
            case 4:
                return told.marks;
            default:
                return BAD;
        }
    }

    public int body(int kind, int version, int buyer) {
        if (!isBody(kind, version, buyer)) {
            return BAD;
        }
        return book.standing(kind, version, buyer);
    }

    public int run(int kind, int version, int buyer, int what) {
        if (!isBody(kind, version, buyer) || what < 0 || what > CELLS) {
            return BAD;
        }
        Run run = ends.run;
        run.perform(book, book.standing(kind, version, buyer));
        return what == CELLS ? run.fault : run.cells[what];
    }

    public int ends(int i) {
        if (i < -1) {
            return BAD;
        }
        ends.learn();
        if (i == -1) {
            return ends.unlike;
        }
        return i < ends.unlike ? ends.rising[i] : NONE;
    }

    public int together(int a, int b) {
        if (!book.isMark(a) || !book.isMark(b) || a == b) {
            return BAD;
        }
        ends.learn();
        return ends.leastTogether(1 << a, 1 << b);
    }

    public int hold(int i) {
        if (i < -1) {
            return BAD;
        }
        hold.learn();
        if (i == -1) {
            return hold.length;
        }
        return i < hold.length ? hold.picked[i] : NONE;
    }

    public int failing(int n, int what) {
        if (n < 0 || n >= MODULUS || what < 0 || what > 1) {
            return BAD;
        }
        ends.learn();
        ends.gatherFailing(n);
        return what == 0 ? ends.failing.size() : ends.weakestSaying();
    }

    // ---- buyers

    public int buyer(int buyer, int kind, int version) {
        if (!isBuyer(buyer) || !book.isKind(kind) || !isVersion(version)) {
            return BAD;
        }
        buyerKinds[buyer] = kind;
        buyerVersions[buyer] = version;
        return 1;
    }

    public int buyers(int sheet, int i, int n) {
        if (!isSheet(sheet) || n < 1 || n > BUYERS) {
            return BAD;
        }
        Sheet source = sheets[sheet];
        if (source.isMissing()) {
            return found(NULL);
        }
        if (!source.hasPlaces(i, n)) {
            return found(PLACE);
        }
        for (int b = 0; b < n; b++) {
            if (!book.isKind(source.items[i + b])) {
                return BAD;
            }
        }
        for (int b = 0; b < n; b++) {
            buyerKinds[b] = source.items[i + b];
            buyerVersions[b] = book.version;
        }
        return fine(n);
    }

    public int who(int line) {
        if (!book.isLine(line)) {
            return BAD;
        }
        int found = 0;
        for (int b = 0; b < BUYERS; b++) {
            if (Book.hasBit(bodyOfBuyer(b), line)) {
                found |= 1 << b;
            }
        }
        return found;
    }

    public int alike(int a, int b) {
        if (!isBuyer(a) || !isBuyer(b)) {
            return BAD;
        }
        return bodyOfBuyer(a) == bodyOfBuyer(b) ? 1 : 0;
    }

    // ---- asked

    public int kind(int line) {
        if (!book.isLine(line)) {
            return BAD;
        }
        return kinds.kindOfLine(line);
    }

    public int as(int line, int kind) {
        if (!book.isLine(line) || kind < LINE_KIND || kind > IDLER_KIND) {
            return BAD;
        }
        if (!Asks.isTakenAs(kinds.kindOfLine(line), kind)) {
            return found(KIND);
        }
        return fine(line);
    }

    public int ask(int line, int what) {
        if (!book.isLine(line) || what < 0 || what > 1) {
            return BAD;
        }
        asks.begin(line);
        return what == 0 ? asks.askSize() : asks.askMark();
    }

    public int trace(int i) {
        return i >= 0 && i < asks.length ? asks.numbers[i] : NONE;
    }

    public int count(int what) {
        switch (what) {
            case 0:
                return sheetsThere();
            case 1:
                return book.marks;
            case 2:
                return book.laws;
            case 3:
                return book.lines;
            case 4:
                return kinds.idlers();
            case 5:
                return book.patches();
            case 6:
                return tape.length;
            case 7:
                return book.version;
            default:
                return BAD;
        }
    }

    public int status() {
        return latestFinding;
    }

    private int found(int finding) {
        latestFinding = finding;
        return FINDINGS - finding;
    }

    private int fine(int answer) {
        latestFinding = 0;
        return answer;
    }

    private static boolean isSheet(int sheet) {
        return sheet >= 0 && sheet < SHEETS;
    }

    private static boolean isBuyer(int buyer) {
        return buyer >= 0 && buyer < BUYERS;
    }

    private static boolean isVersion(int version) {
        return version >= 0 && version <= LAST_VERSION;
    }

    private boolean isBody(int kind, int version, int buyer) {
        return book.isKind(kind) && isVersion(version) && (buyer == NONE || isBuyer(buyer));
    }

    private int sheetsThere() {
        int there = 0;
        for (int i = 0; i < SHEETS; i++) {
            if (!sheets[i].isMissing()) {
                there++;
            }
        }
        return there;
    }

    private int bodyOfBuyer(int buyer) {
        return book.standing(buyerKinds[buyer], buyerVersions[buyer], buyer);
    }

    /** A row of ITEMS, kept as ints whatever its LANE: a narrowed value is the same number as an int. */
    private static final class Sheet {
        static final int MISSING = -1, BYTES = 0, SHORTS = 1, INTS = 2;

        int lane = MISSING;
        int length = 0;
        final int[] items = new int[SHEET_ROOM];

        boolean isMissing() {
            return lane == MISSING;
        }

        void lay(int newLane, int newLength) {
            lane = newLane;
            length = newLength;
            Arrays.fill(items, 0);
        }

        boolean hasPlaces(int first, int n) {
            // The difference cannot wrap, as n is known not to be below 0 by then.
            return n >= 0 && first >= 0 && first <= length - n;
        }

        int narrowed(int value) {
            switch (lane) {
                case BYTES:
                    return (byte) value;
                case SHORTS:
                    return (short) value;
                default:
                    return value;
            }
        }
    }

    /** The bytes that were fed, and the TOKEN of them that is looked at. */
    private static final class Tape {
        private static final int END = 0, NAME = 1, NUMBER = 2, SIGN = 3, WRONG = 4, MOST_FIGURES = 3;

        final byte[] bytes = new byte[TAPE_ROOM];
        int length = 0;
        int start = 0;
        int number = 0;
        private int sort = END;
        private int size = 0;

        void rewind() {
            start = 0;
            size = 0;
            scan();
        }

        void scan() {
            start += size;
            while (start < length && (bytes[start] == ' ' || bytes[start] == '\n')) {
                start++;
            }
            sort = start < length ? sortOf(bytes[start]) : END;
            int end = sort == END ? start : start + 1;
            boolean isRun = sort == NAME || sort == NUMBER;
            while (isRun && end < length && sortOf(bytes[end]) == sort) {
                end++;
            }
            size = end - start;
            if (sort == NUMBER) {
                takeFigures();
            }
        }

        private void takeFigures() {
            if (size > MOST_FIGURES) {
                sort = WRONG;
                return;
            }
            number = 0;
            for (int i = 0; i < size; i++) {
                number = 10 * number + bytes[start + i] - '0';
            }
        }

        boolean isAtEnd() {
            return sort == END;
        }

        boolean isNumber() {
            return sort == NUMBER;
        }

        boolean isSign(char sign) {
            return sort == SIGN && bytes[start] == sign;
        }

        boolean isWord(String word) {
            if (sort != NAME || size != word.length()) {
                return false;
            }
            for (int i = 0; i < size; i++) {
                if (bytes[start + i] != word.charAt(i)) {
                    return false;
                }
            }
            return true;
        }

        private static int sortOf(byte b) {
            if (b >= 'a' && b <= 'z') {
                return NAME;
            }
            if (b >= '0' && b <= '9') {
                return NUMBER;
            }
            return b == ';' || b == '(' || b == ')' ? SIGN : WRONG;
        }
    }

    /** Reads statements behind what the book has; they come into it only by keepAll. */
    private static final class Reader {
        private static final int MISPLACED = 1, NOT_AS_TOLD = 2, NO_ROOM = 3;
        private static final int MOST_MARKS = 12, MOST_NESTED = 5;
        // A saying works in its own row, its parts in the next, their atoms in the one behind that.
        private static final int ROWS = 2 * (MOST_NESTED + 1) + 1;

        int fault = 0;
        int place = 0;
        private final Tape tape;
        private final Book book;
        private final KindSet[] rows = new KindSet[ROWS];
        private int marks = 0;
        private int laws = 0;
        private int lines = 0;
        private int sayingMarks = 0;

        Reader(Tape tape, Book book) {
            this.tape = tape;
            this.book = book;
            for (int i = 0; i < ROWS; i++) {
                rows[i] = new KindSet();
            }
        }

        void begin() {
            marks = book.marks;
            laws = book.laws;
            lines = book.lines;
            tape.rewind();
        }

        void keepAll() {
            book.marks = marks;
            book.laws = laws;
            book.lines = lines;
        }

        boolean readStatement() {
            if (tape.isWord("mark")) {
                return readMark();
            }
            if (tape.isWord("law")) {
                return readLaw();
            }
            if (tape.isWord("line")) {
                return readLine();
            }
            return fail(MISPLACED);
        }

        private boolean fail(int number) {
            fault = number;
            place = tape.start;
            return false;
        }

        private boolean readMark() {
            if (marks >= MARKS) {
                return fail(NO_ROOM);
            }
            tape.scan();
            int under = ROOT;
            if (!tape.isWord("root")) {
                under = readNumber(marks - 1);
                if (under < 0) {
                    return false;
                }
            } else {
                tape.scan();
            }
            int way = chosen("must", "may", "one");
            if (way < 0) {
                return fail(MISPLACED);
            }
            tape.scan();
            if (!readSemicolon()) {
                return false;
            }
            book.under[marks] = under;
            book.way[marks] = way;
            marks++;
            return true;
        }

        private boolean readLaw() {
            if (laws >= LAWS) {
                return fail(NO_ROOM);
            }
            tape.scan();
            sayingMarks = 0;
            if (!readSaying(0, 0) || !readSemicolon()) {
                return false;
            }
            book.law[laws].take(rows[0]);
            laws++;
            return true;
        }

        private boolean readLine() {
            if (lines >= LINES) {
                return fail(NO_ROOM);
            }
            tape.scan();
            Line line = book.line[lines];
            line.begin(book.version);
            if (!readSort(line) || !readAct(line)) {
                return false;
            }
            if (tape.isWord("if")) {
                tape.scan();
                sayingMarks = 0;
                if (!readSaying(0, 0)) {
                    return false;
                }
                line.saying.take(rows[0]);
                line.marks = sayingMarks;
            }
            if (!readSemicolon()) {
                return false;
            }
            lines++;
            return true;
        }

        private boolean readSort(Line line) {
            int sort = chosen("plain", "other", "patch");
            if (sort < 0) {
                return fail(MISPLACED);
            }
            tape.scan();
            line.sort = sort;
            if (sort == PATCH) {
                int buyer = readNumber(BUYERS - 1);
                if (buyer < 0) {
                    return false;
                }
                line.buyer = buyer;
            }
            return true;
        }

        private boolean readAct(Line line) {
            int act = tape.isWord("mul") ? MUL : chosen("set", "add", "sum");
            if (act < 0) {
                return fail(MISPLACED);
            }
            tape.scan();
            int first = readNumber(CELLS - 1);
            if (first < 0) {
                return false;
            }
            int second = readNumber(act == SET || act == ADD ? LAST_VALUE : CELLS - 1);
            if (second < 0) {
                return false;
            }
            line.act = act;
            line.first = first;
            line.second = second;
            return true;
        }

        /** The place of the word among the three that stands here; below 0: none of them. */
        private int chosen(String word0, String word1, String word2) {
            if (tape.isWord(word0)) {
                return 0;
            }
            if (tape.isWord(word1)) {
                return 1;
            }
            return tape.isWord(word2) ? 2 : -1;
        }

        /** The NUMBER that stands here; below 0: it has a FAULT. */
        private int readNumber(int most) {
            if (!tape.isNumber()) {
                fail(MISPLACED);
                return -1;
            }
            int number = tape.number;
            if (number > most) {
                fail(NOT_AS_TOLD);
                return -1;
            }
            tape.scan();
            return number;
        }

        private boolean readSemicolon() {
            if (!tape.isSign(';')) {
                return fail(MISPLACED);
            }
            tape.scan();
            return true;
        }

        /** Leaves the KINDS of which the saying holds in a row; rows behind it are used on the way. */
        private boolean readSaying(int nested, int row) {
            if (row + 2 >= ROWS) {
                return fail(NO_ROOM);
            }
            if (!readPart(nested, row)) {
                return false;
            }
            for (int n = 0; n < TAPE_ROOM && tape.isWord("or"); n++) {
                tape.scan();
                if (!readPart(nested, row + 1)) {
                    return false;
                }
                rows[row].join(rows[row + 1]);
            }
            return true;
        }

        private boolean readPart(int nested, int row) {
            if (!readAtom(nested, row)) {
                return false;
            }
            for (int n = 0; n < TAPE_ROOM && tape.isWord("and"); n++) {
                tape.scan();
                if (!readAtom(nested, row + 1)) {
                    return false;
                }
                rows[row].keep(rows[row + 1]);
            }
            return true;
        }

        private boolean readAtom(int nested, int row) {
            boolean isNot = tape.isWord("not");
            boolean isOpen = tape.isSign('(');
            if (!isNot && !isOpen) {
                int mark = markHere();
                if (mark < 0) {
                    return false;
                }
                sayingMarks++;
                rows[row].fill();
                rows[row].keepOn(mark);
                tape.scan();
                return true;
            }
            if (nested >= MOST_NESTED) {
                return fail(NO_ROOM);
            }
            tape.scan();
            if (isNot) {
                boolean isRead = readAtom(nested + 1, row);
                rows[row].turn();
                return isRead;
            }
            if (!readSaying(nested + 1, row)) {
                return false;
            }
            if (!tape.isSign(')')) {
                return fail(MISPLACED);
            }
            tape.scan();
            return true;
        }

        /** The MARK that stands here in a saying; below 0: it has a FAULT. */
        private int markHere() {
            boolean isThere = tape.isNumber() && tape.number < marks;
            if (isThere && sayingMarks < MOST_MARKS) {
                return tape.number;
            }
            if (isThere) {
                fail(NO_ROOM);
            } else {
                fail(tape.isNumber() ? NOT_AS_TOLD : MISPLACED);
            }
            return -1;
        }
    }

    /** What the texts have told. Slots behind the numbers of MARKS, LAWS, LINES are the reader's to fill. */
    private static final class Book {
        int marks = 0;
        int laws = 0;
        int lines = 0;
        int version = 0;
        final int[] under = new int[MARKS];
        final int[] way = new int[MARKS];
        final KindSet[] law = new KindSet[LAWS];
        final Line[] line = new Line[LINES];

        Book() {
            for (int i = 0; i < LAWS; i++) {
                law[i] = new KindSet();
            }
            for (int i = 0; i < LINES; i++) {
                line[i] = new Line();
            }
        }

        static boolean hasBit(int bits, int i) {
            return (bits >> i & 1) != 0;
        }

        boolean isMark(int number) {
            return number >= 0 && number < marks;
        }

        boolean isLine(int number) {
            return number >= 0 && number < lines;
        }

        int allMarks() {
            return (1 << marks) - 1;
        }

        boolean isKind(int kind) {
            return (kind & ~allMarks()) == 0;
        }

        boolean isChoice(int on, int off) {
            return isKind(on) && isKind(off) && (on & off) == 0;
        }

        int patches() {
            int n = 0;
            for (int i = 0; i < lines; i++) {
                if (line[i].sort == PATCH) {
                    n++;
                }
            }
            return n;
        }

        /** THE BODY of a KIND, a VERSION, a BUYER: the LINES that stand. */
        int standing(int kind, int inVersion, int buyer) {
            int meant = 0;
            int replacing = 0;
            for (int i = 0; i < lines; i++) {
                if (line[i].isFor(inVersion, buyer) && line[i].saying.has(kind)) {
                    meant |= 1 << i;
                    if (line[i].sort != PLAIN) {
                        replacing |= 1 << i;
                    }
                }
            }
            return meant & ~(replacing >> 1);
        }
    }

    private static final class Line {
        int sort = PLAIN;
        int buyer = NONE;
        int act = SET;
        int first = 0;
        int second = 0;
        int marks = 0;
        int from = 0;
        int ended = NONE;
        final KindSet saying = new KindSet();

        void begin(int version) {
            sort = PLAIN;
            buyer = NONE;
            marks = 0;
            from = version;
            ended = NONE;
            saying.fill();
        }

        /** Whether it is there in the VERSION, and not another BUYER's patch. */
        boolean isFor(int version, int forBuyer) {
            boolean isThere = from <= version && (ended == NONE || version < ended);
            return isThere && (sort != PATCH || buyer == forBuyer);
        }

        /** Its KIND among LINES, as long as it is no IDLER. */
        int kindWhenUsed() {
            if (sort == PATCH) {
                return PATCH_KIND;
            }
            if (sort == OTHER) {
                return OTHER_KIND;
            }
            return marks > 0 ? WHEN_KIND : ALWAYS_KIND;
        }
    }

    /** A set of KINDS of all MARKS that can ever be, a bit for each. */
    private static final class KindSet {
        private static final int WORDS = ALL_KINDS / 64, LOW_MARKS = 6;
        // Of the 64 KINDS in a word, those that have each of the lowest six MARKS.
        private static final long[] WITH_LOW_MARK = {
            0xAAAAAAAAAAAAAAAAL, 0xCCCCCCCCCCCCCCCCL, 0xF0F0F0F0F0F0F0F0L,
            0xFF00FF00FF00FF00L, 0xFFFF0000FFFF0000L, 0xFFFFFFFF00000000L
        };

        private final long[] words = new long[WORDS];

        void clear() {
            Arrays.fill(words, 0L);
        }

        void fill() {
            Arrays.fill(words, -1L);
        }

        void put(int kind) {
            if (kind >= 0 && kind < ALL_KINDS) {
                words[kind >> 6] |= 1L << (kind & 63);
            }
        }

        boolean has(int kind) {
            return kind >= 0 && kind < ALL_KINDS && (words[kind >> 6] >>> (kind & 63) & 1L) != 0;
        }

        void take(KindSet from) {
            System.arraycopy(from.words, 0, words, 0, WORDS);
        }

        void turn() {
            for (int w = 0; w < WORDS; w++) {
                words[w] = ~words[w];
            }
        }

        void join(KindSet more) {
            for (int w = 0; w < WORDS; w++) {
                words[w] |= more.words[w];
            }
        }

        void keep(KindSet only) {
            for (int w = 0; w < WORDS; w++) {
                words[w] &= only.words[w];
            }
        }

        void leaveOut(KindSet less) {
            for (int w = 0; w < WORDS; w++) {
                words[w] &= ~less.words[w];
            }
        }

        void keepOn(int mark) {
            for (int w = 0; w < WORDS; w++) {
                words[w] &= wordWith(mark, w);
            }
        }

        void keepOff(int mark) {
            for (int w = 0; w < WORDS; w++) {
                words[w] &= ~wordWith(mark, w);
            }
        }

        void keepChoice(int on, int off) {
            for (int mark = 0; mark < MARKS; mark++) {
                if (Book.hasBit(on, mark)) {
                    keepOn(mark);
                }
                if (Book.hasBit(off, mark)) {
                    keepOff(mark);
                }
            }
        }

        boolean isEmpty() {
            for (int w = 0; w < WORDS; w++) {
                if (words[w] != 0) {
                    return false;
                }
            }
            return true;
        }

        boolean isWithin(KindSet all) {
            for (int w = 0; w < WORDS; w++) {
                if ((words[w] & ~all.words[w]) != 0) {
                    return false;
                }
            }
            return true;
        }

        /** Whether the MARK is on in one of these KINDS. */
        boolean hasOn(int mark) {
            for (int w = 0; w < WORDS; w++) {
                if ((words[w] & wordWith(mark, w)) != 0) {
                    return true;
                }
            }
            return false;
        }

        /** Whether the MARK is off in one of these KINDS. */
        boolean hasOff(int mark) {
            for (int w = 0; w < WORDS; w++) {
                if ((words[w] & ~wordWith(mark, w)) != 0) {
                    return true;
                }
            }
            return false;
        }

        int size() {
            int n = 0;
            for (int w = 0; w < WORDS; w++) {
                n += Long.bitCount(words[w]);
            }
            return n;
        }

        private static long wordWith(int mark, int word) {
            if (mark >= 0 && mark < LOW_MARKS) {
                return WITH_LOW_MARK[mark];
            }
            return (word >> (mark - LOW_MARKS) & 1) == 0 ? 0L : -1L;
        }
    }

    /** The KINDS that are ALLOWED, and what follows from them. */
    private static final class Kinds {
        private static final int TREE = LAWS;

        final KindSet allowed = new KindSet();
        private final KindSet tree = new KindSet();
        private final KindSet some = new KindSet();
        private final KindSet rest = new KindSet();
        private final Book book;
        // By the MARK that they are under, and 1; root has 0.
        private final int[] below = new int[MARKS + 1];
        private final int[] musts = new int[MARKS + 1];
        private final int[] ones = new int[MARKS + 1];

        Kinds(Book book) {
            this.book = book;
        }

        void refresh() {
            gatherBranches();
            tree.clear();
            for (int kind = 0; kind <= book.allMarks(); kind++) {
                if (treeHolds(kind)) {
                    tree.put(kind);
                }
            }
            allowed.take(tree);
            for (int i = 0; i < book.laws; i++) {
                allowed.keep(book.law[i]);
            }
        }

        private void gatherBranches() {
            Arrays.fill(below, 0);
            Arrays.fill(musts, 0);
            Arrays.fill(ones, 0);
            for (int mark = 0; mark < book.marks; mark++) {
                int branch = book.under[mark] + 1;
                below[branch] |= 1 << mark;
                if (book.way[mark] == MUST) {
                    musts[branch] |= 1 << mark;
                }
                if (book.way[mark] == ONE) {
                    ones[branch] |= 1 << mark;
                }
            }
        }

        private boolean treeHolds(int kind) {
            for (int branch = 0; branch <= book.marks; branch++) {
                boolean isIn = branch == 0 || Book.hasBit(kind, branch - 1);
                if (isIn ? !branchHolds(kind, branch) : (kind & below[branch]) != 0) {
                    return false;
                }
            }
            return true;
        }

        private boolean branchHolds(int kind, int branch) {
            boolean oneHolds = ones[branch] == 0 || Integer.bitCount(kind & ones[branch]) == 1;
            return oneHolds && (musts[branch] & ~kind) == 0;
        }

        int deadMarks() {
            int dead = 0;
            for (int mark = 0; mark < book.marks; mark++) {
                if (!allowed.hasOn(mark)) {
                    dead |= 1 << mark;
                }
            }
            return dead;
        }

        int sureMarks() {
            int sure = 0;
            for (int mark = 0; mark < book.marks; mark++) {
                if (!allowed.hasOff(mark)) {
                    sure |= 1 << mark;
                }
            }
            return sure;
        }

        int idleLaws() {
            int many = allowed.size();
            int idle = 0;
            for (int law = 0; law < book.laws; law++) {
                some.take(tree);
                for (int i = 0; i < book.laws; i++) {
                    if (i != law) {
                        some.keep(book.law[i]);
                    }
                }
                if (some.size() == many) {
                    idle |= 1 << law;
                }
            }
            return idle;
        }

        int forcedMarks(int on, int off, boolean areOn) {
            some.take(allowed);
            some.keepChoice(on, off);
            if (some.isEmpty()) {
                return NONE;
            }
            int forced = 0;
            for (int mark = 0; mark < book.marks; mark++) {
                boolean isOpen = !Book.hasBit(on | off, mark);
                if (isOpen && !(areOn ? some.hasOff(mark) : some.hasOn(mark))) {
                    forced |= 1 << mark;
                }
            }
            return forced;
        }

        int nearestTo(int kind) {
            int nearest = NONE;
            int fewest = MARKS + 1;
            for (int k = 0; k <= book.allMarks(); k++) {
                if (allowed.has(k) && Integer.bitCount(k ^ kind) < fewest) {
                    nearest = k;
                    fewest = Integer.bitCount(k ^ kind);
                }
            }
            return nearest;
        }

        int fewestBars(int on, int off) {
            some.fill();
            some.keepChoice(on, off);
            some.keepChoice(0, (ALL_KINDS - 1) & ~book.allMarks());
            int there = 1 << TREE | (1 << book.laws) - 1;
            int best = NONE;
            int fewest = LAWS + 2;
            for (int bars = 0; bars < 1 << (TREE + 1); bars++) {
                int n = Integer.bitCount(bars);
                if ((bars & ~there) == 0 && n < fewest && barSome(bars)) {
                    best = bars;
                    fewest = n;
                }
            }
            return best;
        }

        private boolean barSome(int bars) {
            rest.take(some);
            if (Book.hasBit(bars, TREE)) {
                rest.keep(tree);
            }
            for (int i = 0; i < book.laws; i++) {
                if (Book.hasBit(bars, i)) {
                    rest.keep(book.law[i]);
                }
            }
            return rest.isEmpty();
        }

        /** In how many BODIES of ALLOWED KINDS in THE VERSION a LINE stands: its BUYER's, or no one's. */
        int bodiesWith(int number) {
            Line line = book.line[number];
            if (!line.isFor(book.version, line.buyer)) {
                return 0;
            }
            some.take(allowed);
            some.keep(line.saying);
            if (book.isLine(number + 1)) {
                Line next = book.line[number + 1];
                if (next.sort != PLAIN && next.isFor(book.version, line.buyer)) {
                    some.leaveOut(next.saying);
                }
            }
            return some.size();
        }

        int kindOfLine(int number) {
            return bodiesWith(number) == 0 ? IDLER_KIND : book.line[number].kindWhenUsed();
        }

        int idlers() {
            int n = 0;
            for (int i = 0; i < book.lines; i++) {
                if (bodiesWith(i) == 0) {
                    n++;
                }
            }
            return n;
        }
    }

    private static final class Run {
        final int[] cells = new int[CELLS];
        int fault = NONE;
        private int cellsSet = 0;

        void perform(Book book, int standing) {
            Arrays.fill(cells, 0);
            cellsSet = 0;
            fault = NONE;
            for (int i = 0; i < book.lines; i++) {
                if (Book.hasBit(standing, i)) {
                    act(book.line[i], i);
                }
            }
        }

        private void act(Line line, int number) {
            int cell = line.first;
            switch (line.act) {
                case SET:
                    cells[cell] = line.second;
                    cellsSet |= 1 << cell;
                    break;
                case ADD:
                    need(1 << cell, number);
                    cells[cell] = (cells[cell] + line.second) % MODULUS;
                    break;
                case SUM:
                    need(1 << cell | 1 << line.second, number);
                    cells[cell] = (cells[cell] + cells[line.second]) % MODULUS;
                    break;
                default:
                    need(1 << cell | 1 << line.second, number);
                    cells[cell] = cells[cell] * cells[line.second] % MODULUS;
                    break;
            }
        }

        private void need(int needed, int number) {
            if (fault == NONE && (needed & ~cellsSet) != 0) {
                fault = number;
            }
        }
    }

    /** The ENDS of ALLOWED KINDS; known until a text, THE VERSION or an ENDED LINE changes them. */
    private static final class Ends {
        private static final int FIRST_OF_TWO = 20;

        final Run run = new Run();
        final KindSet failing = new KindSet();
        final int[] rising = new int[MODULUS];
        int unlike = 0;
        boolean known = false;
        private final int[] endOf = new int[ALL_KINDS];
        private final boolean[] isEnd = new boolean[MODULUS];
        private final KindSet holding = new KindSet();
        private final Book book;
        private final Kinds kinds;
        private int weakest = NONE;
        private int most = 0;

        Ends(Book book, Kinds kinds) {
            this.book = book;
            this.kinds = kinds;
        }

        void learn() {
            if (known) {
                return;
            }
            for (int n = 0; n < MODULUS; n++) {
                isEnd[n] = false;
            }
            for (int kind = 0; kind <= book.allMarks(); kind++) {
                if (kinds.allowed.has(kind)) {
                    run.perform(book, book.standing(kind, book.version, NONE));
                    endOf[kind] = run.cells[0];
                    isEnd[run.cells[0]] = true;
                }
            }
            unlike = 0;
            for (int n = 0; n < MODULUS; n++) {
                if (isEnd[n]) {
                    rising[unlike] = n;
                    unlike++;
                }
            }
            known = true;
        }

        int leastTogether(int a, int b) {
            for (int kind = 0; kind <= book.allMarks(); kind++) {
                if ((kind & a) != 0 && (kind & b) != 0 && actTogether(kind, a, b)) {
                    return kind;
                }
            }
            return NONE;
        }

        private boolean actTogether(int kind, int a, int b) {
            KindSet allowed = kinds.allowed;
            int withoutBoth = kind & ~(a | b);
            if (!allowed.has(kind) || !allowed.has(kind & ~a)
                    || !allowed.has(kind & ~b) || !allowed.has(withoutBoth)) {
                return false;
            }
            return endOf[kind] + endOf[withoutBoth] != endOf[kind & ~a] + endOf[kind & ~b];
        }

        void gatherFailing(int end) {
            failing.clear();
            for (int kind = 0; kind <= book.allMarks(); kind++) {
                if (kinds.allowed.has(kind) && endOf[kind] == end) {
                    failing.put(kind);
                }
            }
        }

        int weakestSaying() {
            weakest = NONE;
            most = 0;
            int literals = 2 * book.marks;
            for (int a = 0; a < literals; a++) {
                holding.take(kinds.allowed);
                keepLiteral(a);
                weigh(a);
            }
            for (int a = 0; a < literals; a++) {
                for (int b = (a | 1) + 1; b < literals; b++) {
                    holding.take(kinds.allowed);
                    keepLiteral(a);
                    keepLiteral(b);
                    weigh(FIRST_OF_TWO + FIRST_OF_TWO * a + b);
                }
            }
            return weakest;
        }

        private void keepLiteral(int literal) {
            if ((literal & 1) == 0) {
                holding.keepOn(literal >> 1);
            } else {
                holding.keepOff(literal >> 1);
            }
        }

        /** Sayings come by rising numbers, so of several that hold in the most the first stays. */
        private void weigh(int number) {
            int n = holding.size();
            if (n > most && holding.isWithin(failing)) {
                weakest = number;
                most = n;
            }
        }
    }

    /** The few KINDS that have all PAIRS; known until a text changes them. */
    private static final class Hold {
        // Two of ten MARKS, each on or off: each KIND that is picked has one more at least.
        private static final int PAIRS = 4 * (MARKS * (MARKS - 1) / 2);

        final int[] picked = new int[PAIRS];
        int length = 0;
        boolean known = false;
        private final Book book;
        private final Kinds kinds;
        // Of each LITERAL (a MARK that is on; MARKS further it is off) those that were had with it.
        private final int[] had = new int[2 * MARKS];

        Hold(Book book, Kinds kinds) {
            this.book = book;
            this.kinds = kinds;
        }

        void learn() {
            if (known) {
                return;
            }
            for (int literal = 0; literal < had.length; literal++) {
                had[literal] = 1 << literal;
            }
            length = 0;
            int next = bestKind();
            while (next != NONE && length < PAIRS) {
                picked[length] = next;
                length++;
                addPairs(next);
                next = bestKind();
            }
            known = true;
        }

        private int bestKind() {
            int best = NONE;
            int most = 0;
            for (int kind = 0; kind <= book.allMarks(); kind++) {
                if (kinds.allowed.has(kind)) {
                    int n = newPairs(kind);
                    if (n > most) {
                        best = kind;
                        most = n;
                    }
                }
            }
            return best;
        }

        /** Twice as many as there are, as each PAIR is met from both its MARKS. */
        private int newPairs(int kind) {
            int literals = literalsOf(kind);
            int n = 0;
            for (int mark = 0; mark < book.marks; mark++) {
                n += Integer.bitCount(literals & ~had[literalOf(kind, mark)]);
            }
            return n;
        }

        private void addPairs(int kind) {
            int literals = literalsOf(kind);
            for (int mark = 0; mark < book.marks; mark++) {
                had[literalOf(kind, mark)] |= literals;
            }
        }

        private int literalsOf(int kind) {
            return kind | (book.allMarks() & ~kind) << MARKS;
        }

        private static int literalOf(int kind, int mark) {
            return Book.hasBit(kind, mark) ? mark : mark + MARKS;
        }
    }

    /** ASKS of one LINE at a time. Within one ask its KIND stays, so an ask within it is known beforehand. */
    private static final class Asks {
        private static final int TRACE_ROOM = 16;

        final int[] numbers = new int[TRACE_ROOM];
        int length = 0;
        private final Book book;
        private final Kinds kinds;
        private Line line;
        private int number = 0;
        private int bodies = 0;
        private int kindNow = LINE_KIND;

        Asks(Book book, Kinds kinds) {
            this.book = book;
            this.kinds = kinds;
            this.line = book.line[0];
        }

        static boolean isTakenAs(int told, int kind) {
            if (kind == LINE_KIND || kind == told) {
                return true;
            }
            boolean isUnderWhen = told == OTHER_KIND || told == PATCH_KIND;
            return isUnderWhen && kind >= WHEN_KIND && kind < told;
        }

        void begin(int asked) {
            length = 0;
            number = asked;
            line = book.line[asked];
            bodies = kinds.bodiesWith(asked);
            kindNow = bodies == 0 ? IDLER_KIND : line.kindWhenUsed();
        }

        int askSize() {
            switch (kindNow) {
                case IDLER_KIND:
                    return sizeOfIdler();
                case PATCH_KIND:
                    return sizeOfPatch();
                case OTHER_KIND:
                    return sizeOfOther();
                case WHEN_KIND:
                    return sizeOfWhen();
                default:
                    return sizeLent();
            }
        }

        int askMark() {
            switch (kindNow) {
                case PATCH_KIND:
                    return markOfPatch();
                case OTHER_KIND:
                    return markOfOther();
                case ALWAYS_KIND:
                    return markOfAlways();
                default:
                    return markLent();
            }
        }

        private void leave(int bodyNumber) {
            if (length < TRACE_ROOM) {
                numbers[length] = bodyNumber;
                length++;
            }
        }

        private int sizeLent() {
            leave(10);
            return bodies;
        }

        private int sizeOfWhen() {
            leave(11);
            return sizeLent() + line.marks;
        }

        private int sizeOfOther() {
            leave(12);
            return 2 * sizeOfWhen();
        }

        private int sizeOfPatch() {
            leave(13);
            return sizeOfOther() + markOfPatch();
        }

        private int sizeOfIdler() {
            leave(14);
            return -markLent();
        }

        private int markLent() {
            leave(20);
            return number;
        }

        private int markOfOther() {
            leave(21);
            return markLent() + 100;
        }

        private int markOfPatch() {
            leave(22);
            return markOfOther() + line.buyer;
        }

        private int markOfAlways() {
            leave(23);
            return markLent() + sizeLent();
        }
    }
}
