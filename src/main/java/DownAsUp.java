import java.util.Arrays;

/** A town on rock, where whoever builds must pull down as much in the same week or have yards free. */
public final class DownAsUp {
    public static final int BAD = -1, NOT = -2, FULL = -3, NONE = -4, NULL = -11, CAST = -12, INDEX = -13, SIZE = -14;

    private static final int MOST_WEEKS = 60;
    private static final int MOST_LINES = 8;
    private static final int MOST_STEPS = 255;
    private static final int FAULT = -20;

    private final Town now = new Town();
    private final Town kept = new Town();
    // What is tried out (a text that is read, a book that is judged) goes on here, so that a refusal changes nothing.
    private final Town draft = new Town();
    private final Tape tape = new Tape();
    private final Ways ways = new Ways();
    private final Carrier carrier = new Carrier();
    private final Builder builders = new Builder();
    private final Sheets sheets = new Sheets();
    private boolean hasImage;

    public DownAsUp() {
    }

    // ---- 1 parts, people

    public int part(int kind, int yards, int place, int owner, int rests) {
        if (!Town.isKind(kind) || !Town.isYards(yards) || !Town.isPlace(place)) {
            return BAD;
        }
        if (!Town.isOwner(owner) || !now.isSet(rests)) {
            return BAD;
        }
        if (now.isBuiltUp()) {
            return FULL;
        }
        now.addPart(kind, yards, place, owner, rests);
        ways.forget();
        return now.parts - 1;
    }

    public int told(int part, int what) {
        if (!now.isPart(part)) {
            return BAD;
        }
        switch (what) {
            case 0:
                return now.kinds[part];
            case 1:
                return now.yards[part];
            case 2:
                return now.places[part];
            case 3:
                return now.owners[part];
            case 4:
                return now.rests[part];
            case 5:
                return (now.standing >> part) & 1;
            default:
                return BAD;
        }
    }

    public int stand(int set) {
        if (!now.isSet(set)) {
            return BAD;
        }
        if (!now.isFirm(set)) {
            return NOT;
        }
        int stood = now.standing;
        now.standing = set;
        ways.forget();
        return stood;
    }

    public int person(int set) {
        if (set == 0 || !now.isSet(set)) {
            return BAD;
        }
        if (now.isPeopled()) {
            return FULL;
        }
        now.addPerson(set);
        ways.forget();
        return now.persons - 1;
    }

    public int set(int what, int v) {
        if (what == 0 && v >= 0 && v <= Town.MOST_FREE) {
            int was = now.free;
            now.free = v;
            ways.forget();
            return was;
        }
        if (what == 1 && v >= 1 && v <= Town.MOST_WORK) {
            int was = now.work;
            now.work = v;
            ways.forget();
            return was;
        }
        return BAD;
    }

    public int want(int set) {
        if (!now.isSet(set)) {
            return BAD;
        }
        int was = now.wanted;
        now.wanted = set;
        ways.forget();
        return was;
    }

    public int type(long w, int n) {
        if (n < 1 || n > 8 || !Tape.isPlain(w, n)) {
            return BAD;
        }
        if (!tape.hasRoom(n)) {
            return FULL;
        }
        tape.append(w, n);
        return tape.size;
    }

    public int town() {
        draft.takeOver(now);
        draft.raze();
        boolean read = tape.readTown(draft);
        return endOfReading(read, draft.parts);
    }

    public int people() {
        draft.takeOver(now);
        draft.persons = 0;
        boolean read = tape.readPeople(draft);
        return endOfReading(read, draft.persons);
    }

    private int endOfReading(boolean read, int howMany) {
        int place = tape.at;
        tape.empty();
        if (!read) {
            return FAULT - place;
        }
        now.takeOver(draft);
        ways.forget();
        return howMany;
    }

    public int count(int what) {
        switch (what) {
            case 0:
                return now.parts;
            case 1:
                return now.standing;
            case 2:
                return now.free;
            case 3:
                return now.persons;
            case 4:
                return now.yardsOf(now.standing);
            case 5:
                return now.sheltered(now.standing);
            default:
                return BAD;
        }
    }

    // ---- 2 weeks

    public int may(int go, int come) {
        if (!now.isWeek(go, come)) {
            return BAD;
        }
        return now.isLawful(go, come) ? 1 : 0;
    }

    public int week(int go, int come) {
        if (!now.isWeek(go, come)) {
            return BAD;
        }
        if (!now.isLawful(go, come)) {
            return NOT;
        }
        now.pass(go, come);
        ways.forget();
        return now.free;
    }

    public int can(int i) {
        if (i < -1 || i > MOST_STEPS) {
            return BAD;
        }
        ways.seekWanted(now);
        if (!ways.found || i >= ways.weeks) {
            return NONE;
        }
        return i == -1 ? ways.weeks : ways.sets[i];
    }

    public int more() {
        ways.seekWanted(now);
        if (ways.found) {
            return 0;
        }
        return ways.needed <= Town.MOST_FREE ? ways.needed - now.free : NONE;
    }

    public int carry(int go, int come) {
        if (!now.isWeek(go, come)) {
            return BAD;
        }
        carrier.load(now, go, come);
        return carrier.isEnough() ? carrier.leastCarried() : NONE;
    }

    // ---- 3 builders, worth

    public int build(int builder, int n) {
        if (!Builder.isBuilder(builder) || n < 1 || n > MOST_WEEKS) {
            return BAD;
        }
        builders.lineUp(now, builder);
        int done = 0;
        while (done < n && builders.goOn(now)) {
            done++;
        }
        ways.forget();
        return done;
    }

    public int worth(int owner, int part) {
        if (!Town.isOwner(owner) || part < 0 || part > 1) {
            return BAD;
        }
        int orders = ways.turningOrders(now, owner);
        int shared = Ways.sharedDivisor(orders);
        return (part == 0 ? orders : Ways.ORDERS) / Math.max(1, shared);
    }

    public int image() {
        kept.takeOver(now);
        hasImage = true;
        return 1;
    }

    public int restore() {
        if (!hasImage) {
            return NONE;
        }
        now.takeOver(kept);
        ways.forget();
        return 1;
    }

    // ---- 4 sheets

    public int judged(int sheet, int lane, int from, int n) {
        int refusal = refusalOfBook(sheet, lane, from, n);
        if (refusal != 0) {
            return refusal;
        }
        int line = firstUnlawful(sheet, from, n, -1);
        return line < n ? line : NONE;
    }

    public int wrong(int sheet, int lane, int from, int n, int stood) {
        if (!now.isSet(stood)) {
            return BAD;
        }
        int refusal = refusalOfBook(sheet, lane, from, n);
        if (refusal != 0) {
            return refusal;
        }
        int lines = 0;
        for (int line = 0; line < n; line++) {
            if (firstUnlawful(sheet, from, n, line) == n && draft.standing == stood) {
                lines |= 1 << line;
            }
        }
        return lines;
    }

    private int refusalOfBook(int sheet, int lane, int from, int n) {
        if (n < 1 || n > MOST_LINES) {
            return BAD;
        }
        return sheets.refusal(sheet, lane, from, 2 * n);
    }

    /** The first line that is not lawful, one line being left out (n if there is none); the draft has gone up to it. */
    private int firstUnlawful(int sheet, int from, int n, int leftOut) {
        draft.takeOver(now);
        for (int line = 0; line < n; line++) {
            if (line != leftOut && !draftPasses(sheet, from + 2 * line)) {
                return line;
            }
        }
        return n;
    }

    private boolean draftPasses(int sheet, int at) {
        long go = sheets.look(sheet, at);
        long come = sheets.look(sheet, at + 1);
        if (!draft.isWeek(go, come) || !draft.isLawful((int) go, (int) come)) {
            return false;
        }
        draft.pass((int) go, (int) come);
        return true;
    }

    public int sheet(int sheet, int lane, int n) {
        if (!Sheets.isNamed(sheet, lane) || n > Sheets.MOST_ITEMS) {
            return BAD;
        }
        if (n < 0) {
            return SIZE;
        }
        sheets.renew(sheet, lane, n);
        return n;
    }

    public int drop(int sheet) {
        if (!Sheets.isSheet(sheet)) {
            return BAD;
        }
        if (sheets.isNothing(sheet)) {
            return NULL;
        }
        return sheets.clear(sheet);
    }

    public int item(int sheet, int lane, int i, long v) {
        int refusal = sheets.refusal(sheet, lane, i, 1);
        if (refusal != 0) {
            return refusal;
        }
        sheets.put(sheet, i, v);
        return 1;
    }

    public int film(int sheet, int lane, int from) {
        if (!Sheets.isNamed(sheet, lane)) {
            return BAD;
        }
        ways.seekWanted(now);
        if (!ways.found) {
            return NONE;
        }
        int refusal = sheets.refusal(sheet, lane, from, ways.weeks);
        if (refusal != 0) {
            return refusal;
        }
        for (int i = 0; i < ways.weeks; i++) {
            sheets.put(sheet, from + i, ways.sets[i]);
        }
        return ways.weeks;
    }

    public int copy(int from, int i, int to, int j, int n) {
        if (!Sheets.isSheet(from) || !Sheets.isSheet(to)) {
            return BAD;
        }
        if (sheets.isNothing(from) || sheets.isNothing(to)) {
            return NULL;
        }
        if (!sheets.areAlike(from, to)) {
            return CAST;
        }
        if (!sheets.holds(from, i, n) || !sheets.holds(to, j, n)) {
            return INDEX;
        }
        sheets.bring(from, i, to, j, n);
        return n;
    }

    /** Parts, people, what stands and what is wanted, with the law of the weeks. */
    private static final class Town {
        static final int MOST_PARTS = 8;
        static final int MOST_PEOPLE = 4;
        static final int MOST_YARDS = 99;
        static final int MOST_PLACE = 99;
        static final int MOST_FREE = 999;
        static final int MOST_WORK = 999;
        static final int OWNERS = 4;
        static final int BARN = 1;
        static final int CELLAR = 2;
        static final int RUIN = 3;

        final int[] kinds = new int[MOST_PARTS];
        final int[] yards = new int[MOST_PARTS];
        final int[] places = new int[MOST_PARTS];
        final int[] owners = new int[MOST_PARTS];
        final int[] rests = new int[MOST_PARTS];
        final int[] shelters = new int[MOST_PEOPLE];
        int parts;
        int persons;
        int standing;
        int wanted;
        int free;
        int work = 200;

        static boolean isKind(int kind) {
            return kind >= 0 && kind <= RUIN;
        }

        static boolean isYards(int yards) {
            return yards >= 1 && yards <= MOST_YARDS;
        }

        static boolean isPlace(int place) {
            return place >= 0 && place <= MOST_PLACE;
        }

        static boolean isOwner(int owner) {
            return owner >= 0 && owner < OWNERS;
        }

        boolean isPart(int part) {
            return part >= 0 && part < parts;
        }

        /** The set of all parts. */
        int all() {
            return (1 << parts) - 1;
        }

        // A long, so that an item of a sheet of longs is not taken for its lowest bits.
        boolean isSet(long set) {
            return set >= 0 && set <= all();
        }

        boolean isBuiltUp() {
            return parts >= MOST_PARTS;
        }

        boolean isPeopled() {
            return persons >= MOST_PEOPLE;
        }

        /** Behind isBuiltUp(). */
        void addPart(int kind, int yardsOfIt, int place, int owner, int restsOn) {
            kinds[parts] = kind;
            yards[parts] = yardsOfIt;
            places[parts] = place;
            owners[parts] = owner;
            rests[parts] = restsOn;
            parts++;
        }

        /** Behind isPeopled(). */
        void addPerson(int set) {
            shelters[persons] = set;
            persons++;
        }

        void raze() {
            parts = 0;
            persons = 0;
            standing = 0;
            wanted = 0;
        }

        void takeOver(Town other) {
            System.arraycopy(other.kinds, 0, kinds, 0, MOST_PARTS);
            System.arraycopy(other.yards, 0, yards, 0, MOST_PARTS);
            System.arraycopy(other.places, 0, places, 0, MOST_PARTS);
            System.arraycopy(other.owners, 0, owners, 0, MOST_PARTS);
            System.arraycopy(other.rests, 0, rests, 0, MOST_PARTS);
            System.arraycopy(other.shelters, 0, shelters, 0, MOST_PEOPLE);
            parts = other.parts;
            persons = other.persons;
            standing = other.standing;
            wanted = other.wanted;
            free = other.free;
            work = other.work;
        }

        /** What a part gives as it goes; a cellar takes. */
        int givenByGoing(int part) {
            switch (kinds[part]) {
                case BARN:
                    return yards[part] - 1;
                case CELLAR:
                    return -yards[part];
                case RUIN:
                    return yards[part] / 2;
                default:
                    return yards[part];
            }
        }

        /** What a part gives as it comes: all but cellars take. */
        int givenByComing(int part) {
            return kinds[part] == CELLAR ? yards[part] : -yards[part];
        }

        int yardsOf(int set) {
            int sum = 0;
            for (int p = 0; p < parts; p++) {
                if ((set >> p & 1) == 1) {
                    sum += yards[p];
                }
            }
            return sum;
        }

        /** What is over, if FREE may be of any number: below 0, more is taken than there is. */
        int over(int go, int come) {
            int sum = free;
            for (int p = 0; p < parts; p++) {
                if ((go >> p & 1) == 1) {
                    sum += givenByGoing(p);
                } else if ((come >> p & 1) == 1) {
                    sum += givenByComing(p);
                }
            }
            return sum;
        }

        /** Whether each part of a set has all it rests on. */
        boolean isFirm(int set) {
            for (int p = 0; p < parts; p++) {
                if ((set >> p & 1) == 1 && (rests[p] & ~set) != 0) {
                    return false;
                }
            }
            return true;
        }

        /** Those of the people whom a set of parts shelters. */
        int sheltered(int set) {
            int who = 0;
            for (int p = 0; p < persons; p++) {
                if ((shelters[p] & set) != 0) {
                    who |= 1 << p;
                }
            }
            return who;
        }

        boolean isEveryoneDry(int set) {
            return sheltered(set) == (1 << persons) - 1;
        }

        boolean isWeek(long go, long come) {
            return isSet(go) && isSet(come) && (go & ~standing) == 0 && (come & standing) == 0;
        }

        /** Behind isWeek(). Who is sheltered needs a part that stays: one that stands ahead of the week and behind it. */
        boolean isLawful(int go, int come) {
            return over(go, come) >= 0
                && yardsOf(go | come) <= work
                && isFirm((standing & ~go) | come)
                && isEveryoneDry(standing & ~go);
        }

        /** Behind isLawful(). */
        void pass(int go, int come) {
            free = Math.min(MOST_FREE, over(go, come));
            standing = (standing & ~go) | come;
        }
    }

    /** Bytes that were typed, and how a town and people are read from them; behind a fault, at is its place. */
    private static final class Tape {
        static final int MOST_BYTES = 160;
        static final char END = 0;
        static final String KINDS = "hbcr";

        private final char[] bytes = new char[MOST_BYTES];
        int size;
        int at;

        static boolean isPlain(long w, int n) {
            for (int i = 0; i < n; i++) {
                long b = w >>> (8 * i) & 255;
                if (b < 32 || b > 126) {
                    return false;
                }
            }
            return true;
        }

        boolean hasRoom(int n) {
            return n <= MOST_BYTES - size;
        }

        /** Behind isPlain() and hasRoom(). */
        void append(long w, int n) {
            for (int i = n - 1; i >= 0; i--) {
                bytes[size] = (char) (w >>> (8 * i) & 255);
                size++;
            }
        }

        void empty() {
            size = 0;
            at = 0;
        }

        boolean readTown(Town town) {
            at = 0;
            for (int i = 1; i <= Town.MOST_PARTS; i++) {
                if (!readPart(town)) {
                    return false;
                }
                if (next() == END) {
                    return true;
                }
                if (i == Town.MOST_PARTS || !take(',')) {
                    return false;
                }
            }
            return false;
        }

        boolean readPeople(Town town) {
            at = 0;
            for (int i = 1; i <= Town.MOST_PEOPLE; i++) {
                int set = readParts(town.parts);
                if (set < 0) {
                    return false;
                }
                town.addPerson(set);
                if (next() == END) {
                    return true;
                }
                if (i == Town.MOST_PEOPLE || !take(',')) {
                    return false;
                }
            }
            return false;
        }

        private boolean readPart(Town town) {
            int kind = KINDS.indexOf(next());
            if (kind < 0) {
                return false;
            }
            at++;
            int yards = readNumber(1, Town.MOST_YARDS);
            if (yards < 0) {
                return false;
            }
            int place = take('@') ? readNumber(0, Town.MOST_PLACE) : 0;
            if (place < 0) {
                return false;
            }
            int owner = take('o') ? readDigit(Town.OWNERS) : 0;
            if (owner < 0) {
                return false;
            }
            int rests = take('/') ? readParts(town.parts) : 0;
            if (rests < 0) {
                return false;
            }
            boolean stands = next() == '*';
            if (stands && (rests & ~town.standing) != 0) {
                return false;
            }
            if (stands) {
                at++;
                town.standing |= 1 << town.parts;
            }
            town.addPart(kind, yards, place, owner, rests);
            return true;
        }

        /** The next byte that is no blank, without taking it. */
        private char next() {
            while (at < size && bytes[at] == ' ') {
                at++;
            }
            return at < size ? bytes[at] : END;
        }

        private boolean take(char wanted) {
            if (next() != wanted) {
                return false;
            }
            at++;
            return true;
        }

        /** A number from low to high, or -1 with its first byte as the fault. */
        private int readNumber(int low, int high) {
            next();
            int first = at;
            int value = 0;
            while (at < size && isDigit(bytes[at])) {
                // Cut, so that a long row of digits does not wrap around into what may be.
                value = Math.min(high + 1, value * 10 + bytes[at] - '0');
                at++;
            }
            if (at == first || value < low || value > high) {
                at = first;
                return -1;
            }
            return value;
        }

        /** One digit below a limit, or -1. */
        private int readDigit(int limit) {
            char c = next();
            if (!isDigit(c) || c - '0' >= limit) {
                return -1;
            }
            at++;
            return c - '0';
        }

        /** A digit or more, each once and below a limit, as a set, or -1. */
        private int readParts(int limit) {
            int set = 0;
            for (int i = 0; i < MOST_BYTES && (set == 0 || isDigit(next())); i++) {
                int part = readDigit(limit);
                if (part < 0) {
                    return -1;
                }
                if ((set >> part & 1) == 1) {
                    // It was taken already, and is the fault itself.
                    at--;
                    return -1;
                }
                set |= 1 << part;
            }
            return set;
        }

        private static boolean isDigit(char c) {
            return c >= '0' && c <= '9';
        }
    }

    /** The fewest weeks to the wanted town, what it needs, and for which owners it can be had. */
    private static final class Ways {
        static final int ORDERS = 24;
        private static final int SETS = 256;
        private static final int NEVER = Town.MOST_FREE + 1;
        // Of the orders of four owners, those in which a given one comes behind just 0, 1, 2 or 3 given others.
        private static final int[] ORDERS_BEHIND = {6, 2, 2, 6};

        private final int[] yards = new int[SETS];
        private final int[] givenByGoing = new int[SETS];
        private final int[] givenByComing = new int[SETS];
        private final boolean[] firm = new boolean[SETS];
        private final boolean[] dry = new boolean[SETS];
        private final int[] moves = new int[SETS];
        // Row r tells for each set how many free yards it needs there to have the wanted town in r weeks at most.
        // More free yards never hurt, so one number for each set is enough.
        private int[] needs = new int[8 * SETS];
        final int[] sets = new int[SETS];
        boolean found;
        int weeks;
        int needed;
        private int moveCount;
        private int rows;
        private int able;
        private boolean isTabled;
        private boolean isSought;
        private boolean isShared;

        /** What was found out holds no longer: the town has changed. */
        void forget() {
            isTabled = false;
            isSought = false;
            isShared = false;
        }

        void seekWanted(Town town) {
            if (isSought) {
                return;
            }
            found = seek(town, town.all());
            needed = needs[rows * SETS + town.standing];
            weeks = found ? rows : 0;
            if (found) {
                traceFirst(town);
            }
            isSought = true;
        }

        /** In how many of all orders the wanted town can be had as an owner comes and could not ahead of it. */
        int turningOrders(Town town, int owner) {
            if (!isShared) {
                able = ableCompanies(town);
                isShared = true;
            }
            int orders = 0;
            for (int others = 0; others < 1 << Town.OWNERS; others++) {
                int with = others | 1 << owner;
                if (with != others && isAble(able, with) && !isAble(able, others)) {
                    orders += ORDERS_BEHIND[Integer.bitCount(others)];
                }
            }
            return orders;
        }

        /** The greatest number that divides both some orders and all of them. */
        static int sharedDivisor(int orders) {
            for (int d = ORDERS; d > 1; d--) {
                if (orders % d == 0 && ORDERS % d == 0) {
                    return d;
                }
            }
            return 1;
        }

        private static boolean isAble(int companies, int company) {
            return (companies >> company & 1) == 1;
        }

        /** The sets of owners, as bits of one number, by whose parts alone the wanted town can be had. */
        private int ableCompanies(Town town) {
            int companies = 0;
            for (int company = 0; company < 1 << Town.OWNERS; company++) {
                // One more owner never hurts: where fewer are able, there is nothing to seek.
                if (hasAblePart(companies, company) || seek(town, partsOf(town, company))) {
                    companies |= 1 << company;
                }
            }
            return companies;
        }

        private static boolean hasAblePart(int companies, int company) {
            for (int owner = 0; owner < Town.OWNERS; owner++) {
                int without = company & ~(1 << owner);
                if (without != company && isAble(companies, without)) {
                    return true;
                }
            }
            return false;
        }

        private static int partsOf(Town town, int company) {
            int set = 0;
            for (int p = 0; p < town.parts; p++) {
                if ((company >> town.owners[p] & 1) == 1) {
                    set |= 1 << p;
                }
            }
            return set;
        }

        /** Whether the wanted town can be had while only some parts may go or come: from there back to the town as it is. */
        private boolean seek(Town town, int movable) {
            table(town);
            listMoves(town, movable);
            rows = 0;
            Arrays.fill(needs, 0, SETS, NEVER);
            needs[town.wanted] = 0;
            boolean grown = firm[town.wanted] && ((town.standing ^ town.wanted) & ~movable) == 0;
            // No set stands twice on the shortest way, since no week leaves more than it found: 255 weeks are enough.
            for (int i = 0; i < MOST_STEPS && grown && needs[i * SETS + town.standing] > town.free; i++) {
                grown = growRow(town.all());
            }
            return needs[rows * SETS + town.standing] <= town.free;
        }

        private void table(Town town) {
            if (isTabled) {
                return;
            }
            for (int set = 0; set <= town.all(); set++) {
                sumUp(town, set);
                firm[set] = town.isFirm(set);
                dry[set] = town.isEveryoneDry(set);
            }
            isTabled = true;
        }

        private void sumUp(Town town, int set) {
            yards[set] = 0;
            givenByGoing[set] = 0;
            givenByComing[set] = 0;
            for (int p = 0; p < town.parts; p++) {
                if ((set >> p & 1) == 1) {
                    yards[set] += town.yards[p];
                    givenByGoing[set] += town.givenByGoing(p);
                    givenByComing[set] += town.givenByComing(p);
                }
            }
        }

        /** The sets of parts that may go and come together in one week, as far as work goes. */
        private void listMoves(Town town, int movable) {
            moveCount = 0;
            for (int set = 1; set <= town.all(); set++) {
                if ((set & ~movable) == 0 && yards[set] <= town.work) {
                    moves[moveCount] = set;
                    moveCount++;
                }
            }
        }

        /** One row more: from each set that needs less by the last row, back by one week. Whether any set needs less now. */
        private boolean growRow(int all) {
            int last = rows * SETS;
            int next = last + SETS;
            if (next + SETS > needs.length) {
                needs = Arrays.copyOf(needs, 2 * needs.length);
            }
            System.arraycopy(needs, last, needs, next, SETS);
            boolean grown = false;
            for (int to = 0; to <= all; to++) {
                int before = rows == 0 ? NEVER : needs[last - SETS + to];
                if (needs[last + to] < before && growFrom(to, needs[last + to], next)) {
                    grown = true;
                }
            }
            rows++;
            return grown;
        }

        private boolean growFrom(int to, int needThere, int next) {
            boolean grown = false;
            for (int m = 0; m < moveCount; m++) {
                int from = to ^ moves[m];
                if (firm[from] && dry[from & to]) {
                    int need = Math.max(0, needThere - given(from, to));
                    if (need < needs[next + from]) {
                        needs[next + from] = need;
                        grown = true;
                    }
                }
            }
            return grown;
        }

        private int given(int from, int to) {
            return givenByGoing[from & ~to] + givenByComing[to & ~from];
        }

        /** Of the shortest ways the first: in each week the least set from which what is left of the weeks is enough. */
        private void traceFirst(Town town) {
            int at = town.standing;
            int free = town.free;
            for (int i = 0; i < weeks; i++) {
                int to = leastStep(town, at, free, (weeks - 1 - i) * SETS);
                free = Math.min(Town.MOST_FREE, free + given(at, to));
                sets[i] = to;
                at = to;
            }
        }

        private int leastStep(Town town, int at, int free, int row) {
            for (int to = 0; to <= town.all(); to++) {
                if (firm[to] && dry[at & to] && yards[at ^ to] <= town.work) {
                    int over = Math.min(Town.MOST_FREE, free + given(at, to));
                    if (over >= needs[row + to]) {
                        return to;
                    }
                }
            }
            return at;
        }
    }

    /** Yards brought from heaps to sites, each by the way that adds least, old ways being turned where that is less. */
    private static final class Carrier {
        private static final int HEAPS = Town.MOST_PARTS + 1;
        private static final int SITES = Town.MOST_PARTS;
        private static final int FAR = 1000000;

        private final int[] heapPlace = new int[HEAPS];
        private final int[] heapLeft = new int[HEAPS];
        private final int[] heapWay = new int[HEAPS];
        private final int[] heapVia = new int[HEAPS];
        private final int[] sitePlace = new int[SITES];
        private final int[] siteLack = new int[SITES];
        private final int[] siteWay = new int[SITES];
        private final int[] siteVia = new int[SITES];
        private final int[] brought = new int[HEAPS * SITES];
        private int heaps;
        private int sites;
        private int lacking;
        private int lying;

        void load(Town town, int go, int come) {
            heaps = 0;
            sites = 0;
            lacking = 0;
            lying = 0;
            Arrays.fill(brought, 0);
            addHeap(0, town.free);
            for (int p = 0; p < town.parts; p++) {
                if (town.kinds[p] != Town.CELLAR) {
                    if ((go >> p & 1) == 1) {
                        addHeap(town.places[p], town.givenByGoing(p));
                    } else if ((come >> p & 1) == 1) {
                        addSite(town.places[p], town.yards[p]);
                    }
                }
            }
        }

        private void addHeap(int place, int yards) {
            heapPlace[heaps] = place;
            heapLeft[heaps] = yards;
            heaps++;
            lying += yards;
        }

        private void addSite(int place, int yards) {
            sitePlace[sites] = place;
            siteLack[sites] = yards;
            sites++;
            lacking += yards;
        }

        boolean isEnough() {
            return lying >= lacking;
        }

        /** Behind isEnough(). Each turn brings a yard at least. */
        int leastCarried() {
            int sum = 0;
            int turns = SITES * Town.MOST_YARDS;
            for (int turn = 0; turn < turns && lacking > 0; turn++) {
                findWays();
                int site = nearestSite();
                if (site < 0) {
                    return sum;
                }
                int way = siteWay[site];
                sum += way * bring(site);
            }
            return sum;
        }

        private int far(int heap, int site) {
            return Math.abs(heapPlace[heap] - sitePlace[site]);
        }

        private void findWays() {
            for (int h = 0; h < heaps; h++) {
                heapWay[h] = heapLeft[h] > 0 ? 0 : FAR;
                heapVia[h] = -1;
            }
            for (int s = 0; s < sites; s++) {
                siteWay[s] = FAR;
                siteVia[s] = -1;
            }
            boolean shortened = true;
            for (int round = 0; round < HEAPS + SITES && shortened; round++) {
                shortened = false;
                for (int h = 0; h < heaps; h++) {
                    for (int s = 0; s < sites; s++) {
                        if (shorten(h, s)) {
                            shortened = true;
                        }
                    }
                }
            }
        }

        private boolean shorten(int h, int s) {
            boolean shortened = false;
            if (heapWay[h] < FAR && heapWay[h] + far(h, s) < siteWay[s]) {
                siteWay[s] = heapWay[h] + far(h, s);
                siteVia[s] = h;
                shortened = true;
            }
            if (brought[h * SITES + s] > 0 && siteVia[s] >= 0 && siteWay[s] - far(h, s) < heapWay[h]) {
                heapWay[h] = siteWay[s] - far(h, s);
                heapVia[h] = s;
                shortened = true;
            }
            return shortened;
        }

        private int nearestSite() {
            int best = -1;
            for (int s = 0; s < sites; s++) {
                if (siteLack[s] > 0 && siteVia[s] >= 0 && (best < 0 || siteWay[s] < siteWay[best])) {
                    best = s;
                }
            }
            return best;
        }

        /** Brings to a site, by the way found, as much as goes there: how much. */
        private int bring(int site) {
            int amount = siteLack[site];
            int heap = siteVia[site];
            for (int i = 0; i < HEAPS && heapVia[heap] >= 0; i++) {
                int turned = heapVia[heap];
                amount = Math.min(amount, brought[heap * SITES + turned]);
                heap = siteVia[turned];
            }
            amount = Math.min(amount, heapLeft[heap]);
            ship(site, amount);
            return amount;
        }

        private void ship(int site, int amount) {
            int heap = siteVia[site];
            brought[heap * SITES + site] += amount;
            for (int i = 0; i < HEAPS && heapVia[heap] >= 0; i++) {
                int turned = heapVia[heap];
                brought[heap * SITES + turned] -= amount;
                heap = siteVia[turned];
                brought[heap * SITES + turned] += amount;
            }
            heapLeft[heap] -= amount;
            siteLack[site] -= amount;
            lacking -= amount;
        }
    }

    /** The order in which a builder looks at parts, and what he does in a week. */
    private static final class Builder {
        private static final int BIG = 1;
        private static final int LAST = 3;

        private final int[] order = new int[Town.MOST_PARTS];

        static boolean isBuilder(int builder) {
            return builder >= 0 && builder <= LAST;
        }

        void lineUp(Town town, int builder) {
            for (int p = 0; p < town.parts; p++) {
                order[p] = p;
            }
            if (builder <= BIG) {
                sortByYards(town);
            }
            if (builder == BIG || builder == LAST) {
                turnAround(town.parts);
            }
        }

        private void sortByYards(Town town) {
            for (int i = 1; i < town.parts; i++) {
                int part = order[i];
                int j = i;
                while (j > 0 && town.yards[order[j - 1]] > town.yards[part]) {
                    order[j] = order[j - 1];
                    j--;
                }
                order[j] = part;
            }
        }

        private void turnAround(int parts) {
            for (int i = 0; i < parts / 2; i++) {
                int part = order[i];
                order[i] = order[parts - 1 - i];
                order[parts - 1 - i] = part;
            }
        }

        /** One week; false if he rests. */
        boolean goOn(Town town) {
            int down = town.standing & ~town.wanted;
            int up = town.wanted & ~town.standing;
            return doesTwo(town, down, up) || doesOne(town, down, true) || doesOne(town, up, false);
        }

        private boolean doesTwo(Town town, int down, int up) {
            for (int i = 0; i < town.parts; i++) {
                int go = 1 << order[i];
                for (int j = 0; j < town.parts; j++) {
                    int come = 1 << order[j];
                    if ((down & go) != 0 && (up & come) != 0 && town.isLawful(go, come)) {
                        town.pass(go, come);
                        return true;
                    }
                }
            }
            return false;
        }

        private boolean doesOne(Town town, int those, boolean isGoing) {
            for (int i = 0; i < town.parts; i++) {
                int one = 1 << order[i];
                int go = isGoing ? one : 0;
                int come = one & ~go;
                if ((those & one) != 0 && town.isLawful(go, come)) {
                    town.pass(go, come);
                    return true;
                }
            }
            return false;
        }
    }

    /** Four sheets: each nothing, or a row of a lane. */
    private static final class Sheets {
        static final int MOST_ITEMS = 24;
        private static final int SHEETS = 4;
        private static final int SHORTS = 0;
        private static final int INTS = 1;
        private static final int LONGS = 2;

        // Items of every lane are held as longs that are cut as they come: a reader sees what the lane would hold.
        private final long[] items = new long[SHEETS * MOST_ITEMS];
        private final int[] lanes = new int[SHEETS];
        private final int[] sizes = {-1, -1, -1, -1};

        static boolean isSheet(int sheet) {
            return sheet >= 0 && sheet < SHEETS;
        }

        static boolean isNamed(int sheet, int lane) {
            return isSheet(sheet) && lane >= SHORTS && lane <= LONGS;
        }

        boolean isNothing(int sheet) {
            return sizes[sheet] < 0;
        }

        boolean areAlike(int sheet, int other) {
            return lanes[sheet] == lanes[other];
        }

        boolean holds(int sheet, int from, int n) {
            return from >= 0 && n >= 0 && n <= sizes[sheet] && from <= sizes[sheet] - n;
        }

        /** Of n items from one on, 0 if there is none. */
        int refusal(int sheet, int lane, int from, int n) {
            if (!isNamed(sheet, lane)) {
                return BAD;
            }
            if (isNothing(sheet)) {
                return NULL;
            }
            if (lanes[sheet] != lane) {
                return CAST;
            }
            return holds(sheet, from, n) ? 0 : INDEX;
        }

        void renew(int sheet, int lane, int n) {
            lanes[sheet] = lane;
            sizes[sheet] = n;
            Arrays.fill(items, sheet * MOST_ITEMS, (sheet + 1) * MOST_ITEMS, 0L);
        }

        /** How many items it had. */
        int clear(int sheet) {
            int had = sizes[sheet];
            sizes[sheet] = -1;
            return had;
        }

        long look(int sheet, int i) {
            return items[sheet * MOST_ITEMS + i];
        }

        void put(int sheet, int i, long v) {
            long cut = v;
            if (lanes[sheet] == SHORTS) {
                cut = (short) v;
            } else if (lanes[sheet] == INTS) {
                cut = (int) v;
            }
            items[sheet * MOST_ITEMS + i] = cut;
        }

        void bring(int from, int i, int to, int j, int n) {
            System.arraycopy(items, from * MOST_ITEMS + i, items, to * MOST_ITEMS + j, n);
        }
    }
}
