/** Counties, terms, wants and logs told as texts, and what follows from them; README.md tells its use. */
public final class SwornCounty {
    public static final int NONE = -1;

    /** The answer for what is not there, where NONE tells something of its own. */
    private static final int ABSENT = -2;
    private static final int NO_DARE = -9;
    private static final int NO_KEEPER = -99;

    private static final int COUNTIES = 0;
    private static final int TERMS = 1;
    private static final int WANTS = 2;
    private static final int LOGS = 3;
    private static final int SORTS = 4;
    private static final int TEXTS_MOST = 2;

    private static final int TAPE_MOST = 600;
    private static final int FEED_BYTES = 20;
    private static final int IMAGES = 3;

    private static final int FOLK_MOST = 6;
    private static final int OATHS_MOST = 12;
    private static final int DEEDS_MOST = 40;
    private static final int WANTS_MOST = 6;
    private static final int FACTS_MOST = 8;
    private static final int THINGS = 8;
    private static final int ALL_THINGS = 255;
    private static final int SETS = 256;
    private static final int WILL_MOST = 9;
    private static final int ROOM_MOST = 4;
    private static final int HARD_MOST = 9;
    private static final int HARD_AT_FIRST = 5;
    private static final int VISITS_MOST = 9;
    private static final int LIKING = 2;
    private static final int DARES_MOST = 3;
    private static final int TRIES_MOST = 6;
    private static final int DRAWS_MOST = 60;

    /** Kinds of lines in a COUNTY's text. */
    private static final int IS_FOLK = 0;
    private static final int IS_HARD = 1;
    private static final int IS_CLASH = 2;
    private static final int IS_LIKES = 3;
    private static final int IS_OATH = 4;

    /** Kinds of DEEDS, as deed() tells them. */
    private static final int MONDAY = 0;
    private static final int TIRE = 1;
    private static final int REST = 2;
    private static final int VISIT = 3;
    private static final int COURT = 4;
    private static final int CUT = 5;
    private static final int SWEAR = 6;

    /** How many answers deed(), want() and fact() have for a line. */
    private static final int DEED_ANSWERS = 4;
    private static final int WANT_ANSWERS = 2;
    private static final int FACT_ANSWERS = 3;

    private final Told told = new Told();
    private final Told[] images = new Told[IMAGES];
    private final Reader reader = new Reader();
    private final Course course = new Course();
    private final Bonds bonds = new Bonds();
    private final Counsel counsel = new Counsel();
    private final Swearing swearing = new Swearing();
    private final Wagers wagers = new Wagers();
    private final Guesses guesses = new Guesses();

    public SwornCounty() {
    }

    public int feed(int a, int b, int c, int d, int e) {
        if (told.length + FEED_BYTES > TAPE_MOST) {
            return NONE;
        }
        told.append(a);
        told.append(b);
        told.append(c);
        told.append(d);
        told.append(e);
        return told.length;
    }

    public int end(int n) {
        if (n < 0 || n > told.length) {
            return NONE;
        }
        told.length = n;
        return n;
    }

    public int text(int sort, int at) {
        int many = told.length;
        int number = told.placeFor(sort, at);
        // The tape is taken even where there is no place for its text.
        told.length = 0;
        told.fault = 0;
        told.place = NONE;
        if (number < 0) {
            return ABSENT;
        }
        reader.read(told.tape, many, sort);
        told.fault = reader.fault;
        told.place = reader.place;
        if (reader.fault != 0) {
            return NONE;
        }
        told.store(sort, number, reader.rows);
        return number;
    }

    public int fault(int what) {
        if (what == 0) {
            return told.fault;
        }
        return what == 1 ? told.place : NONE;
    }

    public int county(int county, int what) {
        County c = told.countyAt(county);
        return c == null ? NONE : c.tell(what);
    }

    public int deed(int term, int k, int what) {
        return cellOrSize(told.rowsAt(TERMS, term), k, what, what, DEED_ANSWERS);
    }

    public int stop(int county, int term) {
        County c = told.countyAt(county);
        Rows deeds = told.rowsAt(TERMS, term);
        if (c == null || deeds == null) {
            return NONE;
        }
        return course.run(c, deeds, deeds.size);
    }

    public int state(int county, int term, int n, int what) {
        County c = told.countyAt(county);
        Rows deeds = told.rowsAt(TERMS, term);
        if (c == null || deeds == null || n < 0 || n > deeds.size) {
            return NONE;
        }
        return course.run(c, deeds, n) == n ? course.tell(what) : NONE;
    }

    public int keeps(int county, int who, int what) {
        Standing s = asTold(county);
        if (s == null || !s.isThere(who)) {
            return NO_KEEPER;
        }
        switch (what) {
            case 0:
                return s.swornFor(who);
            case 1:
                return s.openTo(who, 0);
            case 2:
                return s.keptBy(who);
            case 3:
                return counsel.fewestVisits(s, who);
            case 4:
                return Counsel.balance(s, who);
            case 5:
                return Counsel.hearten(s, who);
            default:
                return NO_KEEPER;
        }
    }

    public int heart(int county, int who, int whom) {
        Standing s = asTold(county);
        if (s == null || !s.areTwo(who, whom)) {
            return NONE;
        }
        return s.heartOf(who, whom);
    }

    public int fall(int county, int what) {
        Standing s = asTold(county);
        if (s == null) {
            return ABSENT;
        }
        switch (what) {
            case 0:
                return s.swearersOf(s.brokenOaths(0));
            case 1:
                return Integer.bitCount(Counsel.strikes(s));
            case 2:
                return Counsel.strikes(s);
            case 3:
                bonds.learn(s);
                return bonds.leastRing();
            case 4:
                bonds.learn(s);
                return bonds.ringed();
            default:
                return ABSENT;
        }
    }

    public int want(int wants, int k, int what) {
        return cellOrSize(told.rowsAt(WANTS, wants), k, what, what + 1, WANT_ANSWERS);
    }

    public int swearers(int county, int wants, int k) {
        Standing s = asTold(county);
        Rows rows = told.rowsAt(WANTS, wants);
        if (s == null || rows == null || !swearing.learn(s, rows)) {
            return NONE;
        }
        return k == NONE ? swearing.most : swearing.swearerOf(s, k);
    }

    public int dare(int county, int a, int b, int n, boolean first) {
        Standing s = asTold(county);
        if (s == null || !s.areTwo(a, b) || n < 0 || n > DARES_MOST) {
            return NO_DARE;
        }
        wagers.play(s, a, b, n);
        return first ? wagers.firstThing : wagers.gain;
    }

    public int chance(int county, int a, int b, int thing, int p, int n, boolean under) {
        Standing s = asTold(county);
        if (s == null || !s.areTwo(a, b) || thing < 0 || thing >= THINGS) {
            return NONE;
        }
        if (p < 0 || p > 10 || n < 0 || n > TRIES_MOST) {
            return NONE;
        }
        wagers.weigh(s.hard[thing] - s.heartOf(a, b), p, n);
        return under ? wagers.parts : wagers.part;
    }

    public int fact(int log, int k, int what) {
        return cellOrSize(told.rowsAt(LOGS, log), k, what, what, FACT_ANSWERS);
    }

    public int fits(int county, int log, int who, int what) {
        Standing s = asTold(county);
        Rows facts = told.rowsAt(LOGS, log);
        if (s == null || facts == null || !s.isThere(who)) {
            return ABSENT;
        }
        guesses.learn(s, facts, who);
        return guesses.tell(what);
    }

    public int drawn(int county, int seed, int n, int what) {
        County c = told.countyAt(county);
        if (c == null || n < 0 || n > DRAWS_MOST) {
            return NONE;
        }
        course.runSeed(c, seed, n);
        return course.tell(what);
    }

    public int lone(int county, int what) {
        County c = told.countyAt(county);
        Standing s = asTold(county);
        if (c == null || s == null) {
            return ABSENT;
        }
        if (what < 6) {
            bonds.learn(s);
            return bonds.tell(what);
        }
        if (what < 8) {
            return what == 6 ? Integer.bitCount(c.peace()) : c.peace();
        }
        return counsel.tell(s, what);
    }

    public int chain(int county, int k) {
        Standing s = asTold(county);
        if (s == null) {
            return NONE;
        }
        bonds.learn(s);
        bonds.findChain();
        return k == NONE ? bonds.length : bonds.chained(k);
    }

    public int steps(int county, int from, int to) {
        Standing s = asTold(county);
        if (s == null || !s.isThere(from) || !s.isThere(to)) {
            return NONE;
        }
        return Bonds.likingsBetween(s, from, to);
    }

    public int after(int county, int term, int what) {
        County c = told.countyAt(county);
        Rows deeds = told.rowsAt(TERMS, term);
        if (c == null || deeds == null) {
            return ABSENT;
        }
        course.run(c, deeds, deeds.size);
        return course.tellAfter(what);
    }

    public int count(int sort) {
        return sort < 0 || sort >= SORTS ? ABSENT : told.sizes[sort];
    }

    public boolean image(int k) {
        if (k < 0 || k >= IMAGES) {
            return false;
        }
        if (images[k] == null) {
            images[k] = new Told();
        }
        images[k].copyOf(told);
        return true;
    }

    public boolean again(int k) {
        if (k < 0 || k >= IMAGES || images[k] == null) {
            return false;
        }
        told.copyOf(images[k]);
        return true;
    }

    private static int cellOrSize(Rows rows, int k, int what, int column, int answers) {
        if (rows == null || what < 0 || what >= answers) {
            return ABSENT;
        }
        if (k == NONE) {
            return what == 0 ? rows.size : ABSENT;
        }
        return k < 0 || k >= rows.size ? ABSENT : rows.cell(k, column);
    }

    /** The COUNTY before any DEED; null if there is none such. */
    private Standing asTold(int county) {
        County c = told.countyAt(county);
        if (c == null) {
            return null;
        }
        course.standing.begin(c);
        return course.standing;
    }

    private static boolean has(int bits, int number) {
        return (bits >> number & 1) != 0;
    }

    /** Where the greatest of the first numbers stands, of several the least; NONE if all are 0. */
    private static int greatest(int[] numbers, int size) {
        int best = NONE;
        int most = 0;
        for (int i = 0; i < size && i < numbers.length; i++) {
            if (numbers[i] > most) {
                most = numbers[i];
                best = i;
            }
        }
        return best;
    }

    private static int commonDivisor(int a, int b) {
        int x = a;
        int y = b;
        // Each two steps halve the rest, so an int's bits are steps enough.
        for (int step = 0; step < 64 && y > 0; step++) {
            int rest = x % y;
            x = y;
            y = rest;
        }
        return Math.max(x, 1);
    }

    /** All that is told. COUNTIES and rows never change once they are made, so copies share them. */
    private static final class Told {
        final byte[] tape = new byte[TAPE_MOST];
        int length = 0;
        int fault = 0;
        int place = NONE;
        final int[] sizes = new int[SORTS];
        final County[] counties = new County[TEXTS_MOST];
        final Rows[] rows = new Rows[SORTS * TEXTS_MOST];

        void append(int number) {
            for (int shift = 24; shift >= 0; shift -= 8) {
                if (length < tape.length) {
                    tape[length] = (byte) (number >>> shift);
                    length++;
                }
            }
        }

        /** The number that a text would get; NONE if there is no place for it. */
        int placeFor(int sort, int at) {
            if (sort < 0 || sort >= SORTS) {
                return NONE;
            }
            if (at == NONE) {
                return sizes[sort] < TEXTS_MOST ? sizes[sort] : NONE;
            }
            return at >= 0 && at < sizes[sort] ? at : NONE;
        }

        void store(int sort, int number, Rows lines) {
            if (sort == COUNTIES) {
                counties[number] = new County(lines);
            } else {
                rows[sort * TEXTS_MOST + number] = lines.copy();
            }
            sizes[sort] = Math.max(sizes[sort], number + 1);
        }

        County countyAt(int number) {
            return number < 0 || number >= sizes[COUNTIES] ? null : counties[number];
        }

        Rows rowsAt(int sort, int number) {
            return number < 0 || number >= sizes[sort] ? null : rows[sort * TEXTS_MOST + number];
        }

        void copyOf(Told other) {
            System.arraycopy(other.tape, 0, tape, 0, other.length);
            length = other.length;
            fault = other.fault;
            place = other.place;
            System.arraycopy(other.sizes, 0, sizes, 0, SORTS);
            for (int i = 0; i < counties.length; i++) {
                counties[i] = other.counties[i];
            }
            for (int i = 0; i < rows.length; i++) {
                rows[i] = other.rows[i];
            }
        }
    }

    /** The lines of a text: of each its kind and up to three numbers, NONE for those that it has not. */
    private static final class Rows {
        static final int WIDTH = 4;
        final int[] cells;
        int size = 0;

        Rows(int most) {
            cells = new int[Math.max(most, 0) * WIDTH];
        }

        void add(int kind, int first, int second, int third) {
            int from = size * WIDTH;
            if (from + WIDTH > cells.length) {
                return;
            }
            cells[from] = kind;
            cells[from + 1] = first;
            cells[from + 2] = second;
            cells[from + 3] = third;
            size++;
        }

        int cell(int k, int column) {
            if (k < 0 || k >= size || column < 0 || column >= WIDTH) {
                return NONE;
            }
            return cells[k * WIDTH + column];
        }

        Rows copy() {
            Rows made = new Rows(size);
            System.arraycopy(cells, 0, made.cells, 0, size * WIDTH);
            made.size = size;
            return made;
        }
    }

    /** Takes a tape apart into lines, or tells the FAULT in it. */
    private static final class Reader {
        private static final int END = 0;
        private static final int WORD = 1;
        private static final int NUMBER = 2;
        private static final int SEMICOLON = 3;
        private static final int BAD = 4;

        private static final int UNREADABLE = 1;
        private static final int IMPOSSIBLE = 2;
        private static final int TOO_MANY = 3;
        private static final int NOT_THERE = 4;

        /** The shortest lines, as "tire0;", have six bytes. */
        private static final int LINES_MOST = TAPE_MOST / 6;
        private static final int KINDS_MOST = 7;

        final Rows rows = new Rows(LINES_MOST);
        int fault = 0;
        int place = NONE;
        private final int[] kinds = new int[KINDS_MOST];
        private final int[] numbers = new int[3];
        private byte[] tape = new byte[0];
        private int length = 0;
        private int sort = 0;
        private int token = END;
        private int from = 0;
        private int behind = 0;
        private int value = 0;

        void read(byte[] bytes, int many, int sortOfText) {
            tape = bytes;
            length = Math.min(many, bytes.length);
            sort = sortOfText;
            fault = 0;
            place = NONE;
            rows.size = 0;
            for (int i = 0; i < kinds.length; i++) {
                kinds[i] = 0;
            }
            behind = 0;
            nextToken();
            for (int line = 0; line < length && token != END && fault != UNREADABLE; line++) {
                readLine();
            }
            if (fault == 0 && sort == COUNTIES && someoneIsMissing()) {
                note(NOT_THERE, length);
            }
        }

        private void readLine() {
            int kind = kindOfWord();
            if (kind == NONE) {
                giveUp();
                return;
            }
            if (isFull(kind)) {
                note(TOO_MANY, from);
            }
            nextToken();
            String signs = signsOf(sort, kind);
            for (int i = 0; i < numbers.length; i++) {
                numbers[i] = NONE;
                if (i < signs.length()) {
                    readNumber(signs, i);
                }
            }
            if (fault == UNREADABLE) {
                return;
            }
            if (token != SEMICOLON) {
                giveUp();
                return;
            }
            nextToken();
            rows.add(kind, numbers[0], numbers[1], numbers[2]);
            kinds[kind]++;
        }

        private void readNumber(String signs, int i) {
            if (fault == UNREADABLE) {
                return;
            }
            if (token != NUMBER) {
                giveUp();
                return;
            }
            // Where a line names two of one sort, they are unlike.
            boolean twice = i == 1 && signs.charAt(0) == signs.charAt(1) && value == numbers[0];
            if (twice || value > mostOf(signs.charAt(i))) {
                note(IMPOSSIBLE, from);
            }
            numbers[i] = value;
            nextToken();
        }

        private void note(int what, int where) {
            if (fault == 0) {
                fault = what;
                place = where;
            }
        }

        /** No other FAULT counts where a text can't be read. */
        private void giveUp() {
            fault = UNREADABLE;
            place = from;
        }

        private boolean isFull(int kind) {
            switch (sort) {
                case COUNTIES:
                    return kind == IS_FOLK && kinds[kind] >= FOLK_MOST
                        || kind == IS_OATH && kinds[kind] >= OATHS_MOST;
                case TERMS:
                    return rows.size >= DEEDS_MOST;
                case WANTS:
                    return rows.size >= WANTS_MOST;
                default:
                    return rows.size >= FACTS_MOST;
            }
        }

        private boolean someoneIsMissing() {
            int folk = kinds[IS_FOLK];
            for (int i = 0; i < rows.size; i++) {
                int kind = rows.cell(i, 0);
                boolean names = kind == IS_LIKES || kind == IS_OATH;
                if (names && (rows.cell(i, 1) >= folk || rows.cell(i, 2) >= folk)) {
                    return true;
                }
            }
            return false;
        }

        private int kindOfWord() {
            if (token != WORD) {
                return NONE;
            }
            for (int kind = 0; kind < KINDS_MOST; kind++) {
                if (isWord(wordOf(sort, kind))) {
                    return kind;
                }
            }
            return NONE;
        }

        private boolean isWord(String word) {
            if (word.length() != behind - from) {
                return false;
            }
            for (int i = 0; i < word.length(); i++) {
                if (tape[from + i] != word.charAt(i)) {
                    return false;
                }
            }
            return true;
        }

        private void nextToken() {
            from = behind;
            while (from < length && (tape[from] == 32 || tape[from] == 10)) {
                from++;
            }
            behind = from;
            if (from >= length) {
                token = END;
            } else if (isLetter(from)) {
                token = WORD;
                while (behind < length && isLetter(behind)) {
                    behind++;
                }
            } else if (isDigit(from)) {
                takeNumber();
            } else {
                token = tape[from] == ';' ? SEMICOLON : BAD;
                behind++;
            }
        }

        private void takeNumber() {
            value = 0;
            while (behind < length && isDigit(behind)) {
                value = behind - from < 2 ? value * 10 + tape[behind] - '0' : value;
                behind++;
            }
            token = behind - from > 2 ? BAD : NUMBER;
        }

        private boolean isLetter(int i) {
            return tape[i] >= 'a' && tape[i] <= 'z';
        }

        private boolean isDigit(int i) {
            return tape[i] >= '0' && tape[i] <= '9';
        }

        /** The word of a kind of line; empty, which no word is, if the sort has no such kind. */
        private static String wordOf(int sort, int kind) {
            switch (sort) {
                case COUNTIES:
                    return countyWord(kind);
                case TERMS:
                    return termWord(kind);
                case WANTS:
                    return kind == 0 ? "want" : "";
                default:
                    return kind == 1 ? "kept" : kind == 0 ? "broke" : "";
            }
        }

        private static String countyWord(int kind) {
            switch (kind) {
                case IS_FOLK:
                    return "folk";
                case IS_HARD:
                    return "hard";
                case IS_CLASH:
                    return "clash";
                case IS_LIKES:
                    return "likes";
                case IS_OATH:
                    return "oath";
                default:
                    return "";
            }
        }

        private static String termWord(int kind) {
            switch (kind) {
                case MONDAY:
                    return "monday";
                case TIRE:
                    return "tire";
                case REST:
                    return "rest";
                case VISIT:
                    return "visit";
                case COURT:
                    return "court";
                case CUT:
                    return "cut";
                case SWEAR:
                    return "swear";
                default:
                    return "";
            }
        }

        /** What a line's numbers are: w WILL, r ROOM, h how HARD, t a THING, f one of the FOLK. */
        private static String signsOf(int sort, int kind) {
            switch (sort) {
                case COUNTIES:
                    return kind == IS_FOLK ? "wr" : kind == IS_HARD ? "th" : kind == IS_CLASH ? "tt"
                        : kind == IS_LIKES ? "ff" : "fft";
                case TERMS:
                    return kind == MONDAY ? "" : kind <= REST ? "f" : kind <= CUT ? "ff" : "fft";
                default:
                    return "ft";
            }
        }

        private static int mostOf(char sign) {
            if (sign == 'w') {
                return WILL_MOST;
            }
            if (sign == 'r') {
                return ROOM_MOST;
            }
            if (sign == 'h') {
                return HARD_MOST;
            }
            return sign == 't' ? THINGS - 1 : FOLK_MOST - 1;
        }
    }

    /** A COUNTY as told; it never changes. */
    private static final class County {
        final int[] will = new int[FOLK_MOST];
        final int[] room = new int[FOLK_MOST];
        final int[] likes = new int[FOLK_MOST];
        final int[] hard = new int[THINGS];
        final int[] clash = new int[THINGS];
        final int[] swore = new int[OATHS_MOST];
        final int[] bound = new int[OATHS_MOST];
        final int[] sworn = new int[OATHS_MOST];
        int folk = 0;
        int oaths = 0;

        /** The lines are those of a text without FAULT. */
        County(Rows lines) {
            for (int t = 0; t < THINGS; t++) {
                hard[t] = HARD_AT_FIRST;
            }
            for (int i = 0; i < lines.size; i++) {
                take(lines.cell(i, 0), lines.cell(i, 1), lines.cell(i, 2), lines.cell(i, 3));
            }
        }

        private void take(int kind, int a, int b, int thing) {
            switch (kind) {
                case IS_FOLK:
                    will[folk] = a;
                    room[folk] = b;
                    folk++;
                    break;
                case IS_HARD:
                    hard[a] = b;
                    break;
                case IS_CLASH:
                    clash[a] |= 1 << b;
                    clash[b] |= 1 << a;
                    break;
                case IS_LIKES:
                    likes[a] |= 1 << b;
                    break;
                default:
                    swore[oaths] = a;
                    bound[oaths] = b;
                    sworn[oaths] = thing;
                    oaths++;
                    break;
            }
        }

        /** Nothing is KEPT without ROOM, or of nothing OPEN: there the table is 0 from the first. */
        void fillKeepable(int[] sets) {
            for (int places = 1; places <= ROOM_MOST && (places + 1) * SETS <= sets.length; places++) {
                fillKeepableOf(sets, places);
            }
        }

        /** What is KEPT by those with so many places, by what is OPEN; those with fewer come before. */
        private void fillKeepableOf(int[] sets, int places) {
            int from = places * SETS;
            int fewer = from - SETS;
            for (int top = 0; top < THINGS; top++) {
                for (int rest = 0; rest < 1 << top; rest++) {
                    int without = sets[from + rest];
                    int with = sets[fewer + (rest & ~clash[top])] | 1 << top;
                    // A set without the top THING is the lesser number.
                    boolean more = Integer.bitCount(with) > Integer.bitCount(without);
                    sets[from + (rest | 1 << top)] = more ? with : without;
                }
            }
        }

        /** PEACE: the most THINGS no two of which CLASH, of several sets the least (bits). */
        int peace() {
            int best = 0;
            for (int set = 1; set < SETS; set++) {
                if (Integer.bitCount(set) > Integer.bitCount(best) && isPeaceful(set)) {
                    best = set;
                }
            }
            return best;
        }

        private boolean isPeaceful(int set) {
            for (int t = 0; t < THINGS; t++) {
                if (has(set, t) && (set & clash[t]) != 0) {
                    return false;
                }
            }
            return true;
        }

        int tell(int what) {
            if (what < 10) {
                return what == 0 ? folk : what == 1 ? oaths : NONE;
            }
            if (what < 100) {
                return what < 40 ? tellOne(what / 10, what % 10) : tellThing(what / 10, what % 10);
            }
            return tellOath(what / 100, what % 100);
        }

        private int tellOne(int group, int one) {
            if (one >= folk) {
                return NONE;
            }
            return group == 1 ? will[one] : group == 2 ? room[one] : likes[one];
        }

        private int tellThing(int group, int thing) {
            if (thing >= THINGS) {
                return NONE;
            }
            return group == 4 ? hard[thing] : group == 5 ? clash[thing] : NONE;
        }

        private int tellOath(int group, int k) {
            if (k >= oaths) {
                return NONE;
            }
            return group == 1 ? swore[k] : group == 2 ? bound[k] : group == 3 ? sworn[k] : NONE;
        }
    }

    /** A COUNTY as it stands: as told, or behind some DEEDS. */
    private static final class Standing {
        int folk = 0;
        int oaths = 0;
        final int[] will = new int[FOLK_MOST];
        final int[] room = new int[FOLK_MOST];
        final int[] likes = new int[FOLK_MOST];
        final int[] visits = new int[FOLK_MOST * FOLK_MOST];
        final int[] hard = new int[THINGS];
        final int[] swore = new int[OATHS_MOST];
        final int[] bound = new int[OATHS_MOST];
        final int[] sworn = new int[OATHS_MOST];
        /** What is KEPT, by room and what is OPEN, in the COUNTY that was asked of last. */
        private final int[] keepable = new int[(ROOM_MOST + 1) * SETS];
        private County filledFor = null;

        void begin(County county) {
            folk = county.folk;
            oaths = county.oaths;
            System.arraycopy(county.will, 0, will, 0, FOLK_MOST);
            System.arraycopy(county.room, 0, room, 0, FOLK_MOST);
            System.arraycopy(county.likes, 0, likes, 0, FOLK_MOST);
            System.arraycopy(county.hard, 0, hard, 0, THINGS);
            System.arraycopy(county.swore, 0, swore, 0, OATHS_MOST);
            System.arraycopy(county.bound, 0, bound, 0, OATHS_MOST);
            System.arraycopy(county.sworn, 0, sworn, 0, OATHS_MOST);
            for (int i = 0; i < visits.length; i++) {
                visits[i] = 0;
            }
            if (county != filledFor) {
                county.fillKeepable(keepable);
                filledFor = county;
            }
        }

        /** What one KEEPS (bits) who has so many places and to whom these THINGS are OPEN. */
        int keptOf(int open, int places) {
            if (places < 0 || places > ROOM_MOST || open < 0 || open > ALL_THINGS) {
                return 0;
            }
            int index = places * SETS + open;
            return index < keepable.length ? keepable[index] : 0;
        }

        boolean isThere(int one) {
            return one >= 0 && one < folk;
        }

        boolean areTwo(int a, int b) {
            return isThere(a) && isThere(b) && a != b;
        }

        int heartOf(int who, int whom) {
            int liking = (likes[whom] >> who & 1) * LIKING;
            return will[whom] + liking + visits[who * FOLK_MOST + whom];
        }

        /** THINGS (bits) that would be OPEN if one swore them for another one. */
        int reachOf(int who, int whom) {
            int heart = heartOf(who, whom);
            int things = 0;
            for (int t = 0; t < THINGS; t++) {
                if (heart >= hard[t]) {
                    things |= 1 << t;
                }
            }
            return things;
        }

        int swornFor(int whom) {
            int things = 0;
            for (int k = 0; k < oaths; k++) {
                if (bound[k] == whom) {
                    things |= 1 << sworn[k];
                }
            }
            return things;
        }

        /** THINGS OPEN to one, some OATHS (bits) being struck out. */
        int openTo(int whom, int struck) {
            int things = 0;
            for (int k = 0; k < oaths; k++) {
                boolean counts = bound[k] == whom && !has(struck, k) && !has(things, sworn[k]);
                if (counts && heartOf(swore[k], whom) >= hard[sworn[k]]) {
                    things |= 1 << sworn[k];
                }
            }
            return things;
        }

        int keptBy(int whom) {
            return keptOf(openTo(whom, 0), room[whom]);
        }

        /** OATHS (bits) that are BROKEN, some being struck out, which are none of these. */
        int brokenOaths(int struck) {
            int broken = 0;
            for (int p = 0; p < folk; p++) {
                int kept = keptOf(openTo(p, struck), room[p]);
                for (int k = 0; k < oaths; k++) {
                    if (bound[k] == p && !has(kept, sworn[k])) {
                        broken |= 1 << k;
                    }
                }
            }
            return broken & ~struck;
        }

        /** Who SWORE some of these OATHS (bits, both). */
        int swearersOf(int some) {
            int who = 0;
            for (int k = 0; k < oaths; k++) {
                if (has(some, k)) {
                    who |= 1 << swore[k];
                }
            }
            return who;
        }

        boolean hasOath(int who, int whom, int thing) {
            for (int k = 0; k < oaths; k++) {
                if (swore[k] == who && bound[k] == whom && sworn[k] == thing) {
                    return true;
                }
            }
            return false;
        }
    }

    /** A TERM's course, DEED by DEED, or one that is drawn. */
    private static final class Course {
        final Standing standing = new Standing();
        private int mondays = 0;
        private int kept = 0;
        private int broken = 0;
        private int perjured = 0;
        private int firstPerjury = NONE;
        private int bestMonday = NONE;
        private int mostKept = NONE;
        private int swearings = 0;
        private int seed = 0;
        private final int[] visitsTo = new int[FOLK_MOST];

        private void begin(County county) {
            standing.begin(county);
            mondays = 0;
            kept = 0;
            broken = 0;
            perjured = 0;
            firstPerjury = NONE;
            bestMonday = NONE;
            mostKept = NONE;
            swearings = 0;
        }

        /** Does the first n DEEDS; how many could be, up to the first that can't. */
        int run(County county, Rows deeds, int n) {
            begin(county);
            for (int k = 0; k < n; k++) {
                if (!perform(k, deeds.cell(k, 0), deeds.cell(k, 1), deeds.cell(k, 2), deeds.cell(k, 3))) {
                    return k;
                }
            }
            return n;
        }

        void runSeed(County county, int firstSeed, int n) {
            begin(county);
            seed = firstSeed;
            for (int k = 0; k < n; k++) {
                performDrawn(k);
            }
        }

        private int draw(int below) {
            seed = seed * 1103515245 + 12345;
            return below > 0 ? (seed >>> 16) % below : 0;
        }

        private void performDrawn(int k) {
            int folk = standing.folk;
            int lot = draw(10);
            if (lot == 9) {
                holdMonday(k);
            } else if (lot == 8 && folk > 0) {
                int one = draw(folk);
                perform(k, draw(2) == 0 ? TIRE : REST, one, NONE, NONE);
            } else if (lot < 8 && folk > 1) {
                int a = draw(folk);
                int b = (a + 1 + draw(folk - 1)) % folk;
                int thing = lot < 4 ? draw(THINGS) : NONE;
                perform(k, lot < 4 ? SWEAR : lot < 6 ? VISIT : lot == 6 ? COURT : CUT, a, b, thing);
            }
        }

        /** Does DEED k; false, and nothing is done, if it can't be. */
        private boolean perform(int k, int kind, int a, int b, int thing) {
            switch (kind) {
                case MONDAY:
                    holdMonday(k);
                    return true;
                case TIRE:
                    return changeWill(a, -1);
                case REST:
                    return changeWill(a, 1);
                case VISIT:
                    return payVisit(a, b);
                case COURT:
                    return changeLiking(a, b, true);
                case CUT:
                    return changeLiking(a, b, false);
                case SWEAR:
                    return takeOath(a, b, thing);
                default:
                    return false;
            }
        }

        private void holdMonday(int k) {
            int brokenNow = standing.brokenOaths(0);
            int many = Integer.bitCount(brokenNow);
            int keptNow = standing.oaths - many;
            mondays++;
            kept += keptNow;
            broken += many;
            if (keptNow > mostKept) {
                mostKept = keptNow;
                bestMonday = mondays;
            }
            if (perjured == 0 && brokenNow != 0) {
                firstPerjury = k;
            }
            perjured |= standing.swearersOf(brokenNow);
            standing.oaths = 0;
        }

        private boolean changeWill(int one, int by) {
            if (!standing.isThere(one)) {
                return false;
            }
            int changed = standing.will[one] + by;
            if (changed < 0 || changed > WILL_MOST) {
                return false;
            }
            standing.will[one] = changed;
            return true;
        }

        private boolean payVisit(int a, int b) {
            if (!standing.areTwo(a, b) || standing.visits[a * FOLK_MOST + b] >= VISITS_MOST) {
                return false;
            }
            standing.visits[a * FOLK_MOST + b]++;
            return true;
        }

        private boolean changeLiking(int a, int b, boolean likes) {
            if (!standing.areTwo(a, b) || has(standing.likes[b], a) == likes) {
                return false;
            }
            standing.likes[b] ^= 1 << a;
            return true;
        }

        private boolean takeOath(int a, int b, int thing) {
            int k = standing.oaths;
            if (!standing.areTwo(a, b) || has(perjured, a) || k >= OATHS_MOST || standing.hasOath(a, b, thing)) {
                return false;
            }
            standing.swore[k] = a;
            standing.bound[k] = b;
            standing.sworn[k] = thing;
            standing.oaths = k + 1;
            swearings++;
            return true;
        }

        /** As state() and drawn() tell. */
        int tell(int what) {
            switch (what) {
                case 0:
                    return mondays;
                case 1:
                    return kept;
                case 2:
                    return broken;
                case 3:
                    return perjured;
                case 4:
                    return standing.oaths;
                default:
                    return what < 10 ? NONE : tellOne(what / 10, what % 10);
            }
        }

        private int tellOne(int group, int one) {
            if (!standing.isThere(one)) {
                return NONE;
            }
            switch (group) {
                case 1:
                    return standing.will[one];
                case 2:
                    return standing.swornFor(one);
                case 3:
                    return standing.keptBy(one);
                case 4:
                    return standing.likes[one];
                case 5:
                    return countVisitsTo(one);
                default:
                    return NONE;
            }
        }

        private int countVisitsTo(int one) {
            int many = 0;
            for (int p = 0; p < FOLK_MOST; p++) {
                many += standing.visits[p * FOLK_MOST + one];
            }
            return many;
        }

        /** As after() tells. */
        int tellAfter(int what) {
            switch (what) {
                case 0:
                    return firstPerjury;
                case 1:
                    return mostVisited();
                case 2:
                    return bestMonday;
                case 3:
                    return countLikings();
                case 4:
                    return swearings;
                default:
                    return ABSENT;
            }
        }

        private int mostVisited() {
            for (int p = 0; p < FOLK_MOST; p++) {
                visitsTo[p] = countVisitsTo(p);
            }
            return greatest(visitsTo, standing.folk);
        }

        private int countLikings() {
            int many = 0;
            for (int p = 0; p < standing.folk; p++) {
                many += Integer.bitCount(standing.likes[p]);
            }
            return many;
        }
    }

    /** Who SWORE for whom, and who LIKES whom: rings, rows and counts. */
    private static final class Bonds {
        int length = 0;
        private int folk = 0;
        /** For whom each one SWORE (bits). */
        private final int[] sworeFor = new int[FOLK_MOST];
        private final int[] oathsOf = new int[FOLK_MOST];
        private final int[] oathsFor = new int[FOLK_MOST];
        private final int[] likedBy = new int[FOLK_MOST];
        private final int[] row = new int[FOLK_MOST];
        private final int[] longest = new int[FOLK_MOST];

        void learn(Standing s) {
            folk = s.folk;
            for (int p = 0; p < FOLK_MOST; p++) {
                sworeFor[p] = 0;
                oathsOf[p] = 0;
                oathsFor[p] = 0;
                likedBy[p] = 0;
            }
            for (int k = 0; k < s.oaths; k++) {
                sworeFor[s.swore[k]] |= 1 << s.bound[k];
                oathsOf[s.swore[k]]++;
                oathsFor[s.bound[k]]++;
            }
            for (int p = 0; p < folk; p++) {
                for (int q = 0; q < folk; q++) {
                    likedBy[q] += s.likes[p] >> q & 1;
                }
            }
        }

        /** As lone() tells for 0 to 5. */
        int tell(int what) {
            switch (what) {
                case 0:
                    return without(oathsFor);
                case 1:
                    return without(oathsOf);
                case 2:
                    return greatest(oathsOf, folk);
                case 3:
                    return greatest(oathsFor, folk);
                case 4:
                    return mutual();
                case 5:
                    return greatest(likedBy, folk);
                default:
                    return ABSENT;
            }
        }

        private int without(int[] many) {
            int who = 0;
            for (int p = 0; p < folk; p++) {
                if (many[p] == 0) {
                    who |= 1 << p;
                }
            }
            return who;
        }

        private int mutual() {
            int couples = 0;
            for (int p = 0; p < folk; p++) {
                for (int q = p + 1; q < folk; q++) {
                    if (has(sworeFor[p], q) && has(sworeFor[q], p)) {
                        couples++;
                    }
                }
            }
            return couples;
        }

        private int nextOf(int some) {
            int next = 0;
            for (int p = 0; p < folk; p++) {
                if (has(some, p)) {
                    next |= sworeFor[p];
                }
            }
            return next;
        }

        /** By how few oaths one comes back to oneself: the least ring that one is in; 0 if in none. */
        private int ringOf(int one) {
            int reached = sworeFor[one];
            for (int steps = 1; steps <= folk; steps++) {
                if (has(reached, one)) {
                    return steps;
                }
                reached = nextOf(reached);
            }
            return 0;
        }

        int leastRing() {
            int least = NONE;
            for (int p = 0; p < folk; p++) {
                int ring = ringOf(p);
                if (ring > 0 && (least == NONE || ring < least)) {
                    least = ring;
                }
            }
            return least;
        }

        int ringed() {
            int who = 0;
            for (int p = 0; p < folk; p++) {
                if (ringOf(p) > 0) {
                    who |= 1 << p;
                }
            }
            return who;
        }

        void findChain() {
            length = 0;
            extend(0, (1 << folk) - 1, 0);
        }

        /** Rows come in the order of their numbers, so the first of a length stays. */
        private void extend(int depth, int next, int used) {
            if (depth > length) {
                length = depth;
                System.arraycopy(row, 0, longest, 0, depth);
            }
            if (depth >= FOLK_MOST) {
                return;
            }
            for (int p = 0; p < folk; p++) {
                if (has(next & ~used, p)) {
                    row[depth] = p;
                    extend(depth + 1, sworeFor[p], used | 1 << p);
                }
            }
        }

        int chained(int k) {
            return k < 0 || k >= length ? NONE : longest[k];
        }

        static int likingsBetween(Standing s, int from, int to) {
            int reached = 1 << from;
            for (int steps = 0; steps < FOLK_MOST; steps++) {
                if (has(reached, to)) {
                    return steps;
                }
                int further = reached;
                for (int p = 0; p < s.folk; p++) {
                    if (has(reached, p)) {
                        further |= s.likes[p];
                    }
                }
                reached = further;
            }
            return NONE;
        }
    }

    /** What could be done about a COUNTY as told. */
    private static final class Counsel {
        private final int[] visitsBy = new int[FOLK_MOST];
        private int fewest = 0;
        private int moreCount = 0;
        private int moreFirst = NONE;

        /** As lone() tells from 8 on. */
        int tell(Standing s, int what) {
            switch (what) {
                case 8:
                    return hardest(s);
                case 9:
                    return (1 << s.oaths) - 1 & ~s.brokenOaths(0);
                case 10:
                    return spoilers(s);
                case 11:
                    findMore(s);
                    return moreCount;
                case 12:
                    findMore(s);
                    return moreFirst;
                case 13:
                    return weak(s);
                case 14:
                    return weakPart(s, false);
                case 15:
                    return weakPart(s, true);
                default:
                    return ABSENT;
            }
        }

        private static int hardest(Standing s) {
            int best = 0;
            for (int t = 1; t < THINGS; t++) {
                if (s.hard[t] > s.hard[best]) {
                    best = t;
                }
            }
            return best;
        }

        private static int spoilers(Standing s) {
            int broken = s.brokenOaths(0);
            int found = 0;
            for (int k = 0; k < s.oaths; k++) {
                int before = Integer.bitCount(broken & ~(1 << k));
                if (Integer.bitCount(s.brokenOaths(1 << k)) < before) {
                    found |= 1 << k;
                }
            }
            return found;
        }

        private void findMore(Standing s) {
            moreCount = 0;
            moreFirst = NONE;
            for (int who = 0; who < s.folk; who++) {
                for (int whom = 0; whom < s.folk; whom++) {
                    if (who != whom) {
                        findMoreOf(s, who, whom);
                    }
                }
            }
        }

        private void findMoreOf(Standing s, int who, int whom) {
            int open = s.openTo(whom, 0);
            int before = s.keptBy(whom);
            int reach = s.reachOf(who, whom);
            for (int t = 0; t < THINGS; t++) {
                int then = s.keptOf(open | reach & 1 << t, s.room[whom]);
                // Whatever one keeps was sworn: were it kept no more, an OATH would be BROKEN that was not.
                boolean good = has(then, t) && (before & ~then) == 0;
                if (good && !s.hasOath(who, whom, t)) {
                    moreCount++;
                    moreFirst = moreFirst == NONE ? 100 * who + 10 * whom + t : moreFirst;
                }
            }
        }

        private static int weak(Standing s) {
            int weakest = NONE;
            int kept = 0;
            int all = 1;
            for (int p = 0; p < s.folk; p++) {
                int keptOfThis = Integer.bitCount(s.keptBy(p));
                int allOfThis = Integer.bitCount(s.swornFor(p));
                if (allOfThis > 0 && (weakest == NONE || keptOfThis * all < kept * allOfThis)) {
                    weakest = p;
                    kept = keptOfThis;
                    all = allOfThis;
                }
            }
            return weakest;
        }

        private static int weakPart(Standing s, boolean under) {
            int one = weak(s);
            if (one == NONE) {
                return NONE;
            }
            int kept = Integer.bitCount(s.keptBy(one));
            int all = Integer.bitCount(s.swornFor(one));
            return (under ? all : kept) / commonDivisor(all, kept);
        }

        /**
         * The fewest OATHS to strike out, of several the least (bits). OATHS for one don't touch
         * what another one keeps, so each of the FOLK is looked at alone.
         */
        static int strikes(Standing s) {
            int struck = 0;
            for (int p = 0; p < s.folk; p++) {
                struck |= strikesFor(s, p);
            }
            return struck;
        }

        /** Of a THING that stays all OATHS may stay, so it is THINGS that are chosen. */
        private static int strikesFor(Standing s, int one) {
            int open = s.openTo(one, 0);
            int best = oathsOutside(s, one, 0);
            for (int stay = 1; stay <= open; stay++) {
                if ((stay & ~open) == 0 && s.keptOf(stay, s.room[one]) == stay) {
                    int struck = oathsOutside(s, one, stay);
                    int fewer = Integer.bitCount(best) - Integer.bitCount(struck);
                    best = fewer > 0 || fewer == 0 && struck < best ? struck : best;
                }
            }
            return best;
        }

        private static int oathsOutside(Standing s, int one, int things) {
            int outside = 0;
            for (int k = 0; k < s.oaths; k++) {
                if (s.bound[k] == one && !has(things, s.sworn[k])) {
                    outside |= 1 << k;
                }
            }
            return outside;
        }

        /** VISITS of one; NONE if no VISITS help, as room or a clash forbids it. */
        int fewestVisits(Standing s, int one) {
            int things = s.swornFor(one);
            if (s.keptOf(things, s.room[one]) != things) {
                return NONE;
            }
            for (int p = 0; p < FOLK_MOST; p++) {
                visitsBy[p] = 0;
            }
            fewest = VISITS_MOST * FOLK_MOST;
            visitFor(s, one, things, 0);
            return fewest;
        }

        /**
         * Opens the least THING that is left by each who SWORE it; things are at most as many as
         * ROOM, so it goes no deeper than that. No more than 9 are needed, as none is harder.
         */
        private void visitFor(Standing s, int one, int things, int visits) {
            if (things == 0) {
                fewest = Math.min(fewest, visits);
                return;
            }
            int thing = leastOf(things);
            for (int k = 0; k < s.oaths; k++) {
                if (s.bound[k] == one && s.sworn[k] == thing) {
                    int who = s.swore[k];
                    int before = visitsBy[who];
                    int then = Math.max(before, s.hard[thing] - s.heartOf(who, one));
                    visitsBy[who] = then;
                    visitFor(s, one, things & things - 1, visits + then - before);
                    visitsBy[who] = before;
                }
            }
        }

        private static int leastOf(int things) {
            for (int t = 0; t < THINGS; t++) {
                if (has(things, t)) {
                    return t;
                }
            }
            return NONE;
        }

        static int balance(Standing s, int one) {
            int broken = s.brokenOaths(0);
            int balance = Integer.bitCount(s.keptBy(one));
            for (int k = 0; k < s.oaths; k++) {
                if (s.swore[k] == one && has(broken, k)) {
                    balance--;
                }
            }
            return balance;
        }

        static int hearten(Standing s, int one) {
            int things = s.swornFor(one);
            int will = s.will[one];
            for (int by = 0; will + by <= WILL_MOST; by++) {
                s.will[one] = will + by;
                if (s.keptBy(one) == things) {
                    return by;
                }
            }
            return NONE;
        }
    }

    /** SWEARERS by WANTS. */
    private static final class Swearing {
        private static final int NOBODY = 6;

        int most = 0;
        private Rows wants = null;
        private int size = 0;
        /** By which of the FOLK (bits) a WANT's THING becomes OPEN. */
        private final int[] openers = new int[WANTS_MOST];
        private final int[] open = new int[FOLK_MOST];
        /** How many WANTS are KEPT, by the WANTS (bits) that were sworn so that the THING is OPEN. */
        private final int[] keptBySet = new int[1 << WANTS_MOST];

        /** False if one that is wanted of is not there. */
        boolean learn(Standing s, Rows told) {
            wants = told;
            size = Math.min(told.size, WANTS_MOST);
            for (int j = 0; j < size; j++) {
                if (!s.isThere(whoOf(j))) {
                    return false;
                }
                openers[j] = openersOf(s, whoOf(j), thingOf(j));
            }
            most = 0;
            for (int set = 0; set < 1 << size; set++) {
                keptBySet[set] = countKept(s, set);
                if (keptBySet[set] > most && canSwear(0, set, (1 << FOLK_MOST) - 1)) {
                    most = keptBySet[set];
                }
            }
            return true;
        }

        private int whoOf(int j) {
            return wants == null ? NONE : wants.cell(j, 1);
        }

        private int thingOf(int j) {
            return wants == null ? NONE : wants.cell(j, 2);
        }

        private static int openersOf(Standing s, int whom, int thing) {
            int found = 0;
            for (int p = 0; p < s.folk; p++) {
                if (p != whom && has(s.reachOf(p, whom), thing)) {
                    found |= 1 << p;
                }
            }
            return found;
        }

        private int countKept(Standing s, int set) {
            for (int p = 0; p < FOLK_MOST; p++) {
                open[p] = 0;
            }
            for (int j = 0; j < size; j++) {
                if (has(set, j)) {
                    open[whoOf(j)] |= 1 << thingOf(j);
                }
            }
            int many = 0;
            for (int j = 0; j < size; j++) {
                int who = whoOf(j);
                if (has(s.keptOf(open[who], s.room[who]), thingOf(j))) {
                    many++;
                }
            }
            return many;
        }

        /** Whether each WANT of a set, from the j-th on, can have an opener of its own among those free. */
        private boolean canSwear(int j, int set, int free) {
            if (j >= size) {
                return true;
            }
            if (!has(set, j)) {
                return canSwear(j + 1, set, free);
            }
            for (int p = 0; p < FOLK_MOST; p++) {
                if (has(openers[j] & free, p) && canSwear(j + 1, set, free & ~(1 << p))) {
                    return true;
                }
            }
            return false;
        }

        /** Who swears the k-th WANT in the first row by which most are KEPT; NONE if there is no such WANT. */
        int swearerOf(Standing s, int k) {
            if (k < 0 || k >= size) {
                return NONE;
            }
            int free = (1 << s.folk) - 1;
            int set = 0;
            int who = NOBODY;
            for (int j = 0; j <= k; j++) {
                who = firstFor(j, set, free);
                if (who != NOBODY) {
                    free &= ~(1 << who);
                    set |= has(openers[j], who) ? 1 << j : 0;
                }
            }
            return who;
        }

        private int firstFor(int j, int set, int free) {
            for (int p = 0; p < FOLK_MOST; p++) {
                if (has(free, p) && p != whoOf(j)) {
                    int then = has(openers[j], p) ? set | 1 << j : set;
                    if (reachesMost(j + 1, then, free & ~(1 << p))) {
                        return p;
                    }
                }
            }
            return NOBODY;
        }

        /** Whether the WANTS from the j-th on can be sworn so that most are KEPT. */
        private boolean reachesMost(int j, int set, int free) {
            for (int rest = 0; rest < 1 << size - j; rest++) {
                int then = set | rest << j;
                if (keptBySet[then] == most && canSwear(j, then, free)) {
                    return true;
                }
            }
            return false;
        }
    }

    /** DARE and CHANCE of two. */
    private static final class Wagers {
        private static final int NOTHING = 8;

        int gain = 0;
        int firstThing = NONE;
        int part = 0;
        int parts = 1;
        private Standing standing = null;
        private int first = 0;
        private int second = 0;
        /** What becomes OPEN to the first, to the second, if the other one swears it (bits). */
        private int reachOfFirst = 0;
        private int reachOfSecond = 0;
        private final int[] ways = new int[TRIES_MOST + 1];

        void play(Standing s, int a, int b, int n) {
            standing = s;
            first = a;
            second = b;
            reachOfFirst = s.reachOf(b, a);
            reachOfSecond = s.reachOf(a, b);
            int openToFirst = s.openTo(a, 0);
            int openToSecond = s.openTo(b, 0);
            gain = firstTurn(n, openToFirst, openToSecond);
            firstThing = NONE;
            for (int t = 0; t <= NOTHING && n > 0 && firstThing == NONE; t++) {
                int then = openToSecond | reachOfSecond & 1 << t;
                if (secondTurn(n - 1, openToFirst, then) == gain) {
                    firstThing = t;
                }
            }
        }

        private int firstTurn(int left, int openToFirst, int openToSecond) {
            if (left <= 0) {
                return difference(openToFirst, openToSecond);
            }
            int best = -THINGS;
            for (int t = 0; t <= NOTHING; t++) {
                int then = openToSecond | reachOfSecond & 1 << t;
                best = Math.max(best, secondTurn(left - 1, openToFirst, then));
            }
            return best;
        }

        private int secondTurn(int left, int openToFirst, int openToSecond) {
            if (left <= 0) {
                return difference(openToFirst, openToSecond);
            }
            int best = THINGS;
            for (int t = 0; t <= NOTHING; t++) {
                int then = openToFirst | reachOfFirst & 1 << t;
                best = Math.min(best, firstTurn(left - 1, then, openToSecond));
            }
            return best;
        }

        private int difference(int openToFirst, int openToSecond) {
            if (standing == null) {
                return 0;
            }
            int keptByFirst = standing.keptOf(openToFirst, standing.room[first]);
            int keptBySecond = standing.keptOf(openToSecond, standing.room[second]);
            return Integer.bitCount(keptBySecond) - Integer.bitCount(keptByFirst);
        }

        /** How likely of n visits, each of which takes by p of ten, as many take as are needed. */
        void weigh(int needed, int p, int n) {
            for (int i = 0; i < ways.length; i++) {
                ways[i] = 0;
            }
            ways[0] = 1;
            int all = 1;
            for (int visit = 0; visit < n; visit++) {
                for (int took = ways.length - 1; took > 0; took--) {
                    ways[took] = ways[took] * (10 - p) + ways[took - 1] * p;
                }
                ways[0] = ways[0] * (10 - p);
                all *= 10;
            }
            int good = 0;
            for (int took = Math.max(needed, 0); took < ways.length; took++) {
                good += ways[took];
            }
            int divisor = commonDivisor(all, good);
            part = good / divisor;
            parts = all / divisor;
        }
    }

    /** What WILL and ROOM one had, by a LOG. */
    private static final class Guesses {
        private static final int MOST = (WILL_MOST + 1) * (ROOM_MOST + 1);

        private int size = 0;
        private final int[] will = new int[MOST];
        private final int[] room = new int[MOST];
        private final int[] kept = new int[MOST];

        /** The standing's WILL of this one is changed; each call begins a standing anew. */
        void learn(Standing s, Rows facts, int one) {
            size = 0;
            if (!othersAreSo(s, facts, one)) {
                return;
            }
            int must = thingsTold(facts, one, 1);
            int mustNot = thingsTold(facts, one, 0);
            for (int w = 0; w <= WILL_MOST; w++) {
                s.will[one] = w;
                int open = s.openTo(one, 0);
                for (int r = 0; r <= ROOM_MOST; r++) {
                    int keptThen = s.keptOf(open, r);
                    if ((must & ~keptThen) == 0 && (mustNot & keptThen) == 0) {
                        add(w, r, keptThen);
                    }
                }
            }
        }

        private void add(int w, int r, int keptThen) {
            if (size < MOST) {
                will[size] = w;
                room[size] = r;
                kept[size] = keptThen;
                size++;
            }
        }

        private static boolean othersAreSo(Standing s, Rows facts, int one) {
            for (int k = 0; k < facts.size; k++) {
                int who = facts.cell(k, 1);
                if (!s.isThere(who)) {
                    return false;
                }
                boolean isKept = has(s.keptBy(who), facts.cell(k, 2));
                if (who != one && isKept != (facts.cell(k, 0) == 1)) {
                    return false;
                }
            }
            return true;
        }

        private static int thingsTold(Rows facts, int one, int kind) {
            int things = 0;
            for (int k = 0; k < facts.size; k++) {
                if (facts.cell(k, 0) == kind && facts.cell(k, 1) == one) {
                    things |= 1 << facts.cell(k, 2);
                }
            }
            return things;
        }

        /** As fits() tells. */
        int tell(int what) {
            switch (what) {
                case 0:
                    return size;
                case 1:
                    return sure(will);
                case 2:
                    return sure(room);
                case 3:
                    return ask();
                case 4:
                    return size == 0 ? NONE : will[0];
                case 5:
                    return size == 0 ? NONE : will[size - 1];
                default:
                    return what < 10 || what - 10 >= size ? ABSENT : 10 * will[what - 10] + room[what - 10];
            }
        }

        private int sure(int[] numbers) {
            for (int i = 1; i < size; i++) {
                if (numbers[i] != numbers[0]) {
                    return NONE;
                }
            }
            return size == 0 ? NONE : numbers[0];
        }

        private int ask() {
            int best = NONE;
            int least = size;
            for (int t = 0; t < THINGS && size > 0; t++) {
                int many = 0;
                for (int i = 0; i < size; i++) {
                    many += kept[i] >> t & 1;
                }
                int greater = Math.max(many, size - many);
                if (best == NONE || greater < least) {
                    best = t;
                    least = greater;
                }
            }
            return best;
        }
    }
}
