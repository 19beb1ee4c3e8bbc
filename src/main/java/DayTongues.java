/** A port by an old peace in which each day is spoken in one of some tongues: its words, its people, its years. */
public final class DayTongues {
    public static final int NONE = -1000000, BAD = -1000001, STATE = -1000002, FULL = -1000003;

    private static final int NO_FINDING = 0, NULL = 1, PLACE = 2, KIND = 3, SIZE = 4, STORE = 5;
    private static final int FIRST_FINDING = -1000010, FIRST_FAULT = -1000100;
    private static final int MOST_DAY = 1000000, MOST_SAID = 6, MOST_SAYINGS = 5, MOST_YEARS = 100, MOST_SEED = 999999;
    private static final int MOST_TONGUES = 7, MOST_WORDS = 8, MOST_READINGS = 3, MOST_PEOPLE = 8, PARTS = 8, SETS = 256;
    private static final int PLAIN = 1, COUNTING = 2, LENT = 3, DOUBLE = 4, OATH = 5;

    private final Rows rows;
    private final Tape tape;
    private final Port now;
    private final Port read;
    private final Port firstImage;
    private final Port secondImage;
    private final Sayings sayings;
    private final People people;
    private Word asked;
    private int latestFault;
    private int latestFinding;

    public DayTongues() {
        rows = new Rows();
        tape = new Tape();
        now = new Port();
        read = new Port();
        firstImage = new Port();
        secondImage = new Port();
        sayings = new Sayings(now);
        people = new People(now);
        asked = null;
        latestFault = 0;
        latestFinding = NO_FINDING;
    }

    // ---- rows

    public int row(int row, int lane, int n) {
        if (!Rows.isOne(row) || !isWithin(lane, 0, Rows.INTS) || n > Rows.MOST_ITEMS) {
            return BAD;
        }
        if (n < 0) {
            return found(SIZE);
        }
        rows.lay(row, lane, n);
        return well(n);
    }

    public int set(int row, int i, int v) {
        if (!Rows.isOne(row)) {
            return BAD;
        }
        if (rows.isMissing(row)) {
            return found(NULL);
        }
        if (!rows.hasPlaces(row, i, 1)) {
            return found(PLACE);
        }
        return well(rows.put(row, i, v));
    }

    public int copy(int a, int i, int b, int j, int n) {
        if (!Rows.isOne(a) || !Rows.isOne(b)) {
            return BAD;
        }
        if (rows.isMissing(a) || rows.isMissing(b)) {
            return found(NULL);
        }
        if (rows.laneOf(a) != rows.laneOf(b)) {
            return found(STORE);
        }
        if (!rows.hasPlaces(a, i, n) || !rows.hasPlaces(b, j, n)) {
            return found(PLACE);
        }
        rows.move(a, i, b, j, n);
        return well(n);
    }

    public int drop(int row) {
        if (!Rows.isOne(row)) {
            return BAD;
        }
        if (rows.isMissing(row)) {
            return found(NULL);
        }
        return well(rows.lose(row));
    }

    // ---- ports, years

    public int feed(long w, int n) {
        if (!isWithin(n, 1, 8)) {
            return BAD;
        }
        if (!tape.hasRoom(n)) {
            return FULL;
        }
        return tape.append(w, n);
    }

    public int port() {
        int fault = tape.readInto(read);
        int place = tape.placeOfToken();
        tape.empty();
        if (fault != Tape.NO_FAULT) {
            latestFault = fault;
            return FIRST_FAULT - place;
        }
        now.become(read);
        return now.tongues();
    }

    public int fault() {
        return latestFault;
    }

    public int drift(int n, int seed) {
        if (hasNoPort()) {
            return STATE;
        }
        if (!isWithin(n, 1, MOST_YEARS) || !isWithin(seed, 1, MOST_SEED)) {
            return BAD;
        }
        now.passYears(n, seed);
        return now.years();
    }

    public int word(int tongue, int word, int what) {
        if (!now.hasWord(tongue, word) || !isWithin(what, 0, MOST_READINGS)) {
            return BAD;
        }
        int many = now.readingsOf(tongue, word);
        if (what == 0) {
            return many;
        }
        return what <= many ? now.reading(tongue, word, what - 1) : NONE;
    }

    public int words(int tongue) {
        return now.hasTongue(tongue) ? now.wordsOf(tongue) : BAD;
    }

    public int knows(int person) {
        return now.hasPerson(person) ? now.knownBy(person) : BAD;
    }

    // ---- sayings

    public int means(int day, int row, int i, int n, int k) {
        if (hasNoPort()) {
            return STATE;
        }
        if (!isDay(day) || !Rows.isOne(row) || !isWithin(n, 0, MOST_SAID) || k < -1) {
            return BAD;
        }
        if (rows.isMissing(row)) {
            return found(NULL);
        }
        if (!rows.hasPlaces(row, i, n)) {
            return found(PLACE);
        }
        if (!isSaid(now.tongueOf(day), row, i, n)) {
            return BAD;
        }
        return well(sayings.meaning(k));
    }

    public int shortest(int day, int meaning, int what, int k) {
        if (hasNoPort()) {
            return STATE;
        }
        if (!isDay(day) || !isSet(meaning) || !isWithin(what, 0, 1) || k < -1) {
            return BAD;
        }
        return sayings.shortestOf(now.tongueOf(day), meaning, what == 1, k);
    }

    public int sayable(int day, int what) {
        if (hasNoPort()) {
            return STATE;
        }
        if (!isDay(day) || !isWithin(what, 0, 1)) {
            return BAD;
        }
        int tongue = now.tongueOf(day);
        return what == 0 ? sayings.perhapsSaid(tongue) : sayings.surelySaid(tongue, 0);
    }

    public int bargain(int row, int m, int k) {
        if (hasNoPort()) {
            return STATE;
        }
        if (!Rows.isOne(row) || !isWithin(m, 1, MOST_SAYINGS) || k < -1) {
            return BAD;
        }
        if (rows.isMissing(row)) {
            return found(NULL);
        }
        sayings.beginBargain();
        int at = 0;
        for (int saying = 0; saying < m; saying++) {
            int refusal = refusalOfSaying(row, at);
            if (refusal != 0) {
                return refusal == BAD ? BAD : found(PLACE);
            }
            sayings.joinBargain();
            at += 2 + rows.item(row, at + 1);
        }
        return well(sayings.meaningAlike(k));
    }

    // ---- people

    public int understands(int day, int hearer, int set) {
        if (!isDay(day) || !now.hasPerson(hearer) || !isSet(set)) {
            return BAD;
        }
        return people.fewestBetween(now.tongueOf(day), hearer, set);
    }

    public int week(int what) {
        if (hasNoPort()) {
            return STATE;
        }
        if (!isWithin(what, 0, 1)) {
            return BAD;
        }
        int set = people.fewestForAll();
        if (set == NONE || what == 1) {
            return set;
        }
        return Integer.bitCount(set);
    }

    public int letIn(int meaning) {
        if (hasNoPort()) {
            return STATE;
        }
        if (!isWithin(meaning, 1, SETS - 1)) {
            return BAD;
        }
        return sayings.tongueToLetIn(meaning);
    }

    public int dated(int row, int i, int n, int meaning) {
        if (hasNoPort()) {
            return STATE;
        }
        if (!Rows.isOne(row) || !isWithin(n, 0, MOST_SAID) || !isSet(meaning)) {
            return BAD;
        }
        if (rows.isMissing(row)) {
            return found(NULL);
        }
        if (!rows.hasPlaces(row, i, n)) {
            return found(PLACE);
        }
        for (int at = i; at < i + n; at++) {
            if (!isWithin(rows.item(row, at), 0, MOST_WORDS - 1)) {
                return BAD;
            }
        }
        return well(tonguesOf(row, i, n, meaning));
    }

    public int image(int k) {
        if (!isWithin(k, 0, 1)) {
            return BAD;
        }
        if (hasNoPort()) {
            return STATE;
        }
        imageOf(k).become(now);
        return 1;
    }

    public int restore(int k) {
        if (!isWithin(k, 0, 1)) {
            return BAD;
        }
        if (imageOf(k).isNone()) {
            return STATE;
        }
        now.become(imageOf(k));
        return 1;
    }

    // ---- asked

    public int kind(int tongue, int word) {
        return now.hasWord(tongue, word) ? now.kindOf(tongue, word) : BAD;
    }

    public int as(int tongue, int word, int kind) {
        if (!now.hasWord(tongue, word) || !isWithin(kind, 0, OATH)) {
            return BAD;
        }
        return isOfKind(wordToAsk(tongue, word), kind) ? well(word) : found(KIND);
    }

    public int ask(int tongue, int word, int what) {
        if (!now.hasWord(tongue, word) || !isWithin(what, 0, 1)) {
            return BAD;
        }
        Word one = wordToAsk(tongue, word);
        asked = one;
        return what == 0 ? one.size() : one.mark();
    }

    public int trace(int i) {
        return asked == null ? NONE : asked.step(i);
    }

    public int count(int what) {
        switch (what) {
            case 0:
                return rows.many();
            case 1:
                return now.tongues();
            case 2:
                return now.wordsOfAll();
            case 3:
                return now.people();
            case 4:
                return now.years();
            case 5:
                return tape.bytes();
            default:
                return BAD;
        }
    }

    public int status() {
        return latestFinding;
    }

    // ---- what the calls share

    private int found(int finding) {
        latestFinding = finding;
        return FIRST_FINDING - finding;
    }

    private int well(int answer) {
        latestFinding = NO_FINDING;
        return answer;
    }

    private boolean hasNoPort() {
        return now.isNone();
    }

    private static boolean isWithin(int v, int least, int most) {
        return least <= v && v <= most;
    }

    private static boolean isDay(int day) {
        return isWithin(day, 0, MOST_DAY);
    }

    private static boolean isSet(int set) {
        return isWithin(set, 0, SETS - 1);
    }

    private Port imageOf(int k) {
        return k == 0 ? firstImage : secondImage;
    }

    /** Says the n words of a row's items from i on; false: one of them is no word of the tongue. */
    private boolean isSaid(int tongue, int row, int i, int n) {
        sayings.begin();
        for (int at = i; at < i + n; at++) {
            int word = rows.item(row, at);
            if (!now.hasWord(tongue, word)) {
                return false;
            }
            sayings.say(tongue, word);
        }
        return true;
    }

    /** Says what a bargain's row tells from an item on: day, how many words, these; 0, or BAD, or PLACE, as they come. */
    private int refusalOfSaying(int row, int at) {
        if (!rows.hasPlaces(row, at, 1)) {
            return PLACE;
        }
        int day = rows.item(row, at);
        if (day < 0) {
            return BAD;
        }
        if (!rows.hasPlaces(row, at + 1, 1)) {
            return PLACE;
        }
        int n = rows.item(row, at + 1);
        if (!isWithin(n, 0, MOST_SAID)) {
            return BAD;
        }
        // A wrong word ahead of the row's end comes first, so only the words that are there are said.
        int there = Math.min(n, rows.sizeOf(row) - at - 2);
        if (!isSaid(now.tongueOf(day), row, at + 2, there)) {
            return BAD;
        }
        return there < n ? PLACE : 0;
    }

    private int tonguesOf(int row, int i, int n, int meaning) {
        int tongues = 0;
        for (int tongue = 0; tongue < now.tongues(); tongue++) {
            if (isSaid(tongue, row, i, n) && sayings.mayMean(meaning)) {
                tongues |= 1 << tongue;
            }
        }
        return tongues;
    }

    private Word wordToAsk(int tongue, int word) {
        int readings = now.readingsOf(tongue, word);
        // The only reading of a plain word is what its readings have in common.
        int common = now.common(tongue, word);
        switch (now.kindOf(tongue, word)) {
            case PLAIN:
                return new PlainWord(word, readings, common);
            case COUNTING:
                return new CountingWord(word, readings, common);
            case LENT:
                return new LentWord(word, readings, common);
            case DOUBLE:
                return new DoubleWord(word, readings, common);
            case OATH:
                return new OathWord(word, readings, common);
            default:
                return new Word(word, readings);
        }
    }

    private static boolean isOfKind(Word one, int kind) {
        switch (kind) {
            case PLAIN:
                return one instanceof PlainWord;
            case COUNTING:
                return one instanceof CountingWord;
            case LENT:
                return one instanceof LentWord;
            case DOUBLE:
                return one instanceof DoubleWord;
            case OATH:
                return one instanceof OathWord;
            default:
                return kind == 0;
        }
    }

    /** The rows: each is missing, or has a lane and items. */
    private static final class Rows {
        static final int MOST_ROWS = 8, MOST_ITEMS = 40, BYTES = 0, SHORTS = 1, INTS = 2, MISSING = -1;

        private final int[] lanes;
        private final int[] sizes;
        private final int[] items;

        Rows() {
            lanes = new int[MOST_ROWS];
            sizes = new int[MOST_ROWS];
            items = new int[MOST_ROWS * MOST_ITEMS];
            for (int row = 0; row < lanes.length; row++) {
                lanes[row] = MISSING;
            }
        }

        static boolean isOne(int row) {
            return 0 <= row && row < MOST_ROWS;
        }

        boolean isMissing(int row) {
            return laneOf(row) == MISSING;
        }

        int laneOf(int row) {
            return isOne(row) ? lanes[row] : MISSING;
        }

        /** How many items a row has; a row that is missing has none. */
        int sizeOf(int row) {
            return isOne(row) ? sizes[row] : 0;
        }

        int many() {
            int many = 0;
            for (int row = 0; row < MOST_ROWS; row++) {
                if (!isMissing(row)) {
                    many++;
                }
            }
            return many;
        }

        /** Whether a row has n places from i on; none are asked for at its very end, too. */
        boolean hasPlaces(int row, int i, int n) {
            return i >= 0 && n >= 0 && n <= sizeOf(row) && i <= sizeOf(row) - n;
        }

        int item(int row, int i) {
            return hasPlaces(row, i, 1) ? items[row * MOST_ITEMS + i] : 0;
        }

        void lay(int row, int lane, int n) {
            if (!isOne(row) || n < 0 || n > MOST_ITEMS) {
                return;
            }
            lanes[row] = lane;
            sizes[row] = n;
            for (int i = 0; i < n; i++) {
                items[row * MOST_ITEMS + i] = 0;
            }
        }

        int put(int row, int i, int v) {
            if (!hasPlaces(row, i, 1)) {
                return 0;
            }
            int kept = lowestBits(lanes[row], v);
            items[row * MOST_ITEMS + i] = kept;
            return kept;
        }

        void move(int a, int i, int b, int j, int n) {
            if (isOne(a) && isOne(b) && hasPlaces(a, i, n) && hasPlaces(b, j, n)) {
                System.arraycopy(items, a * MOST_ITEMS + i, items, b * MOST_ITEMS + j, n);
            }
        }

        int lose(int row) {
            if (!isOne(row)) {
                return 0;
            }
            int lost = sizes[row];
            lanes[row] = MISSING;
            sizes[row] = 0;
            return lost;
        }

        private static int lowestBits(int lane, int v) {
            if (lane == BYTES) {
                return (byte) v;
            }
            return lane == SHORTS ? (short) v : v;
        }
    }

    /** The port: tongues with their words, people, and the years gone; without a tongue there is no port. */
    private static final class Port {
        private static final int TIMES = 16807, BY = 2147483647;

        private final int[] wordCounts;
        private final int[] kinds;
        private final int[] readingCounts;
        private final int[] readings;
        private final int[] known;
        private int tongueCount;
        private int peopleCount;
        private int yearCount;

        Port() {
            wordCounts = new int[MOST_TONGUES];
            kinds = new int[MOST_TONGUES * MOST_WORDS];
            readingCounts = new int[MOST_TONGUES * MOST_WORDS];
            readings = new int[MOST_TONGUES * MOST_WORDS * MOST_READINGS];
            known = new int[MOST_PEOPLE];
            tongueCount = 0;
            peopleCount = 0;
            yearCount = 0;
        }

        boolean isNone() {
            return tongueCount == 0;
        }

        int tongues() {
            return tongueCount;
        }

        int people() {
            return peopleCount;
        }

        int years() {
            return yearCount;
        }

        boolean hasTongue(int tongue) {
            return 0 <= tongue && tongue < tongueCount && tongue < MOST_TONGUES;
        }

        boolean hasPerson(int person) {
            return 0 <= person && person < peopleCount && person < MOST_PEOPLE;
        }

        boolean hasWord(int tongue, int word) {
            return 0 <= tongue && tongue < tongueCount && tongue < MOST_TONGUES
                && 0 <= word && word < wordCounts[tongue] && word < MOST_WORDS;
        }

        int tongueOf(int day) {
            return rest(day, tongueCount);
        }

        int wordsOf(int tongue) {
            return hasTongue(tongue) ? wordCounts[tongue] : 0;
        }

        int wordsOfAll() {
            int many = 0;
            for (int tongue = 0; tongue < tongueCount; tongue++) {
                many += wordsOf(tongue);
            }
            return many;
        }

        int knownBy(int person) {
            return hasPerson(person) ? known[person] : 0;
        }

        int kindOf(int tongue, int word) {
            return hasWord(tongue, word) ? kinds[slotOf(tongue, word)] : 0;
        }

        int readingsOf(int tongue, int word) {
            return hasWord(tongue, word) ? readingCounts[slotOf(tongue, word)] : 0;
        }

        int reading(int tongue, int word, int which) {
            return hasReading(tongue, word, which) ? readings[slotOf(tongue, word) * MOST_READINGS + which] : 0;
        }

        /** The parts that all readings of a word have. */
        int common(int tongue, int word) {
            int parts = SETS - 1;
            for (int which = 0; which < readingsOf(tongue, word); which++) {
                parts &= reading(tongue, word, which);
            }
            return parts;
        }

        /** The parts that some reading of a word has. */
        int whole(int tongue, int word) {
            int parts = 0;
            for (int which = 0; which < readingsOf(tongue, word); which++) {
                parts |= reading(tongue, word, which);
            }
            return parts;
        }

        void clear() {
            tongueCount = 0;
            peopleCount = 0;
            yearCount = 0;
        }

        void addTongue() {
            if (tongueCount < MOST_TONGUES) {
                wordCounts[tongueCount] = 0;
                tongueCount++;
            }
        }

        /** A word more, without readings as yet, of the latest tongue. */
        void addWord(int kind) {
            int tongue = tongueCount - 1;
            if (hasTongue(tongue) && wordCounts[tongue] < MOST_WORDS) {
                int slot = slotOf(tongue, wordCounts[tongue]);
                kinds[slot] = kind;
                readingCounts[slot] = 0;
                wordCounts[tongue]++;
            }
        }

        /** A reading more of the latest word. */
        void addReading(int parts) {
            int tongue = tongueCount - 1;
            int word = wordsOf(tongue) - 1;
            if (!hasWord(tongue, word)) {
                return;
            }
            int slot = slotOf(tongue, word);
            int which = readingCounts[slot];
            if (0 <= which && which < MOST_READINGS) {
                readings[slot * MOST_READINGS + which] = parts;
                readingCounts[slot]++;
            }
        }

        void addPerson(int tongues) {
            if (peopleCount < MOST_PEOPLE) {
                known[peopleCount] = tongues;
                peopleCount++;
            }
        }

        void become(Port other) {
            System.arraycopy(other.wordCounts, 0, wordCounts, 0, wordCounts.length);
            System.arraycopy(other.kinds, 0, kinds, 0, kinds.length);
            System.arraycopy(other.readingCounts, 0, readingCounts, 0, readingCounts.length);
            System.arraycopy(other.readings, 0, readings, 0, readings.length);
            System.arraycopy(other.known, 0, known, 0, known.length);
            tongueCount = other.tongueCount;
            peopleCount = other.peopleCount;
            yearCount = other.yearCount;
        }

        void passYears(int n, int seed) {
            int x = seed;
            for (int year = 0; year < n; year++) {
                x = passYear(x);
                yearCount++;
            }
        }

        /** One year: the draw that it ends with. */
        private int passYear(int before) {
            int x = draw(before);
            int tongue = rest(x, tongueCount);
            x = draw(x);
            int many = wordsOf(tongue);
            if (many == 0) {
                return x;
            }
            int word = rest(x, many);
            x = draw(x);
            int which = rest(x, readingsOf(tongue, word));
            x = draw(x);
            turn(tongue, word, which, 1 << rest(x, PARTS));
            return x;
        }

        private void turn(int tongue, int word, int which, int part) {
            int turned = reading(tongue, word, which) ^ part;
            if (turned != 0 && hasReading(tongue, word, which)) {
                readings[slotOf(tongue, word) * MOST_READINGS + which] = turned;
            }
        }

        private boolean hasReading(int tongue, int word, int which) {
            return hasWord(tongue, word) && 0 <= which && which < MOST_READINGS
                && which < readingCounts[slotOf(tongue, word)];
        }

        private static int slotOf(int tongue, int word) {
            return tongue * MOST_WORDS + word;
        }

        private static int draw(int x) {
            return (int) ((long) x * TIMES % BY);
        }

        private static int rest(int x, int by) {
            return by > 0 ? x % by : 0;
        }
    }

    /** The tape, and how a port is read from it, token by token. */
    private static final class Tape {
        static final int NO_FAULT = 0, CANNOT_STAND = 1, NOT_AS_TOLD = 2, NO_ROOM = 3;

        private static final int MOST_BYTES = 500, MOST_FIGURES = 3;
        private static final int END = 0, NAME = 1, NUMBER = 2, SIGN = 3, NO_TOKEN = 4;

        private final int[] bytes;
        private int size;
        private int sort;
        private int begin;
        private int end;

        Tape() {
            bytes = new int[MOST_BYTES];
            empty();
        }

        int bytes() {
            return size;
        }

        boolean hasRoom(int n) {
            return n <= MOST_BYTES - size;
        }

        int append(long w, int n) {
            for (int i = n - 1; i >= 0 && size < MOST_BYTES; i--) {
                bytes[size] = (int) (w >> (8 * i)) & 255;
                size++;
            }
            return size;
        }

        void empty() {
            size = 0;
            begin = 0;
            end = 0;
            sort = END;
        }

        /** Where the latest token begins: the faulty one, where there is a fault. */
        int placeOfToken() {
            return begin;
        }

        /** Reads the whole tape: its fault, or none. */
        int readInto(Port port) {
            port.clear();
            end = 0;
            next();
            if (!isName("tongue")) {
                return CANNOT_STAND;
            }
            for (int i = 0; i <= MOST_TONGUES && isName("tongue"); i++) {
                int fault = readTongue(port);
                if (fault != NO_FAULT) {
                    return fault;
                }
            }
            for (int i = 0; i <= MOST_PEOPLE && isName("person"); i++) {
                int fault = readPerson(port);
                if (fault != NO_FAULT) {
                    return fault;
                }
            }
            return sort == END ? NO_FAULT : CANNOT_STAND;
        }

        private int readTongue(Port port) {
            if (port.tongues() >= MOST_TONGUES) {
                return NO_ROOM;
            }
            port.addTongue();
            next();
            int fault = readSemicolon();
            for (int i = 0; i <= MOST_WORDS && fault == NO_FAULT && isName("word"); i++) {
                fault = readWord(port);
            }
            return fault;
        }

        private int readWord(Port port) {
            if (port.wordsOf(port.tongues() - 1) >= MOST_WORDS) {
                return NO_ROOM;
            }
            next();
            int kind = kindTold();
            if (kind == 0) {
                return CANNOT_STAND;
            }
            port.addWord(kind);
            next();
            int fault = readReadings(port, leastReadings(kind), mostReadings(kind));
            return fault == NO_FAULT ? readSemicolon() : fault;
        }

        private int readReadings(Port port, int least, int most) {
            for (int i = 0; i < most; i++) {
                if (sort != NUMBER) {
                    return i < least ? CANNOT_STAND : NO_FAULT;
                }
                int parts = number();
                if (parts < 1 || parts >= SETS) {
                    return NOT_AS_TOLD;
                }
                port.addReading(parts);
                next();
            }
            return NO_FAULT;
        }

        private int readPerson(Port port) {
            if (port.people() >= MOST_PEOPLE) {
                return NO_ROOM;
            }
            next();
            if (sort != NUMBER) {
                return CANNOT_STAND;
            }
            int tongues = number();
            if (tongues >= 1 << port.tongues()) {
                return NOT_AS_TOLD;
            }
            port.addPerson(tongues);
            next();
            return readSemicolon();
        }

        private int readSemicolon() {
            if (sort != SIGN) {
                return CANNOT_STAND;
            }
            next();
            return NO_FAULT;
        }

        private int kindTold() {
            if (isName("plain")) {
                return PLAIN;
            }
            if (isName("count")) {
                return COUNTING;
            }
            if (isName("lent")) {
                return LENT;
            }
            if (isName("double")) {
                return DOUBLE;
            }
            return isName("oath") ? OATH : 0;
        }

        private static int leastReadings(int kind) {
            return kind == DOUBLE ? 2 : 1;
        }

        private static int mostReadings(int kind) {
            return kind == DOUBLE || kind == OATH ? MOST_READINGS : 1;
        }

        /** Goes on to the next token. */
        private void next() {
            begin = end;
            while (begin < size && isBlank(at(begin))) {
                begin++;
            }
            end = begin + 1;
            if (begin >= size) {
                end = begin;
                sort = END;
            } else if (isLetter(at(begin))) {
                sort = NAME;
                while (end < size && isLetter(at(end))) {
                    end++;
                }
            } else if (isFigure(at(begin))) {
                while (end < size && isFigure(at(end))) {
                    end++;
                }
                sort = end - begin <= MOST_FIGURES ? NUMBER : NO_TOKEN;
            } else {
                sort = at(begin) == ';' ? SIGN : NO_TOKEN;
            }
        }

        private int at(int i) {
            return 0 <= i && i < size && i < MOST_BYTES ? bytes[i] : 0;
        }

        private boolean isName(String name) {
            if (sort != NAME || end - begin != name.length()) {
                return false;
            }
            for (int i = 0; i < name.length(); i++) {
                if (at(begin + i) != name.charAt(i)) {
                    return false;
                }
            }
            return true;
        }

        private int number() {
            int value = 0;
            for (int i = begin; i < end; i++) {
                value = value * 10 + at(i) - '0';
            }
            return value;
        }

        private static boolean isBlank(int b) {
            return b == 32 || b == 10;
        }

        private static boolean isLetter(int b) {
            return 'a' <= b && b <= 'z';
        }

        private static boolean isFigure(int b) {
            return '0' <= b && b <= '9';
        }
    }

    /** What may be meant: by a saying told word by word, by several alike, by any saying of a tongue. */
    private static final class Sayings {
        // Each word of a shortest saying brings a part that was missing, so none has more words than there are parts.
        private static final int MOST_SHORTEST = PARTS, BITS_OF_WORD = 3, NOT_REACHED = -1;

        private final Port port;
        private final boolean[] meant;
        private final boolean[] before;
        private final boolean[] alike;
        private final int[] lengths;
        private final int[] codes;
        private final int[] wholes;
        private final int[] commons;

        Sayings(Port port) {
            this.port = port;
            meant = new boolean[SETS];
            before = new boolean[SETS];
            alike = new boolean[SETS];
            lengths = new int[SETS];
            codes = new int[SETS];
            wholes = new int[MOST_WORDS];
            commons = new int[MOST_WORDS];
        }

        /** A saying without words as yet: it means none of the parts. */
        void begin() {
            for (int set = 0; set < SETS; set++) {
                meant[set] = set == 0;
            }
        }

        void say(int tongue, int word) {
            System.arraycopy(meant, 0, before, 0, SETS);
            for (int set = 0; set < SETS; set++) {
                meant[set] = false;
            }
            for (int which = 0; which < port.readingsOf(tongue, word); which++) {
                int parts = port.reading(tongue, word, which) & (SETS - 1);
                for (int set = 0; set < SETS; set++) {
                    if (before[set]) {
                        meant[set | parts] = true;
                    }
                }
            }
        }

        boolean mayMean(int set) {
            return 0 <= set && set < SETS && meant[set];
        }

        int meaning(int k) {
            return k < 0 ? manyOf(meant) : numberOf(meant, k);
        }

        void beginBargain() {
            for (int set = 0; set < SETS; set++) {
                alike[set] = true;
            }
        }

        void joinBargain() {
            for (int set = 0; set < SETS; set++) {
                alike[set] = alike[set] && meant[set];
            }
        }

        int meaningAlike(int k) {
            return k < 0 ? manyOf(alike) : numberOf(alike, k);
        }

        int perhapsSaid(int tongue) {
            begin();
            for (int word = 0; word < port.wordsOf(tongue); word++) {
                for (int which = 0; which < port.readingsOf(tongue, word); which++) {
                    addToAll(port.reading(tongue, word, which) & (SETS - 1));
                }
            }
            return manyOf(meant);
        }

        /** How many sets can be meant alone, with a plain word more (0: none). */
        int surelySaid(int tongue, int more) {
            int words = Math.min(port.wordsOf(tongue), MOST_WORDS);
            for (int word = 0; word < words; word++) {
                wholes[word] = port.whole(tongue, word);
                commons[word] = port.common(tongue, word);
            }
            int many = 0;
            for (int set = 0; set < SETS; set++) {
                int sure = (more | set) == set ? more : 0;
                for (int word = 0; word < words; word++) {
                    if ((wholes[word] | set) == set) {
                        sure |= commons[word];
                    }
                }
                if (sure == set) {
                    many++;
                }
            }
            return many;
        }

        int tongueToLetIn(int meaning) {
            int best = NONE;
            int most = NONE;
            for (int tongue = 0; tongue < port.tongues(); tongue++) {
                if (port.wordsOf(tongue) < MOST_WORDS) {
                    int grown = surelySaid(tongue, meaning) - surelySaid(tongue, 0);
                    if (grown > most) {
                        most = grown;
                        best = tongue;
                    }
                }
            }
            return best;
        }

        int shortestOf(int tongue, int meaning, boolean alone, int k) {
            if (meaning < 0 || meaning >= SETS) {
                return NONE;
            }
            reach(tongue, meaning, alone);
            int length = lengths[meaning];
            if (length == NOT_REACHED || k >= length) {
                return NONE;
            }
            return k < 0 ? length : codes[meaning] >> (BITS_OF_WORD * (length - 1 - k)) & (MOST_WORDS - 1);
        }

        /** Finds, word by word, the shortest saying of each set until the meaning is reached. */
        private void reach(int tongue, int meaning, boolean alone) {
            for (int set = 0; set < SETS; set++) {
                lengths[set] = NOT_REACHED;
                codes[set] = 0;
            }
            lengths[0] = 0;
            for (int length = 1; length <= MOST_SHORTEST && lengths[meaning] == NOT_REACHED; length++) {
                for (int word = 0; word < port.wordsOf(tongue); word++) {
                    if (alone) {
                        goOnSurely(tongue, word, meaning, length);
                    } else {
                        goOnPerhaps(tongue, word, length);
                    }
                }
            }
        }

        private void goOnPerhaps(int tongue, int word, int length) {
            for (int which = 0; which < port.readingsOf(tongue, word); which++) {
                goOn(word, port.reading(tongue, word, which) & (SETS - 1), length);
            }
        }

        /** A part is sure by one word all of whose readings have it; no reading may have a part beyond the meaning. */
        private void goOnSurely(int tongue, int word, int meaning, int length) {
            if ((port.whole(tongue, word) | meaning) == meaning) {
                goOn(word, port.common(tongue, word) & (SETS - 1), length);
            }
        }

        private void goOn(int word, int parts, int length) {
            for (int set = 0; set < SETS; set++) {
                if (lengths[set] == length - 1) {
                    offer(set | parts, length, codes[set] << BITS_OF_WORD | word);
                }
            }
        }

        /** Of sayings of one length the code is least whose words come first. */
        private void offer(int set, int length, int code) {
            if (set < 0 || set >= SETS) {
                return;
            }
            if (lengths[set] == NOT_REACHED || lengths[set] == length && code < codes[set]) {
                lengths[set] = length;
                codes[set] = code;
            }
        }

        private void addToAll(int parts) {
            for (int set = 0; set < SETS; set++) {
                if (meant[set] && (set | parts) < SETS) {
                    meant[set | parts] = true;
                }
            }
        }

        private static int manyOf(boolean[] sets) {
            int many = 0;
            for (int set = 0; set < sets.length; set++) {
                if (sets[set]) {
                    many++;
                }
            }
            return many;
        }

        private static int numberOf(boolean[] sets, int k) {
            int left = k;
            for (int set = 0; set < sets.length; set++) {
                if (sets[set]) {
                    if (left == 0) {
                        return set;
                    }
                    left--;
                }
            }
            return NONE;
        }
    }

    /** Who understands whom by which interpreters. */
    private static final class People {
        private static final int NOBODY = -1;

        private final Port port;

        People(Port port) {
            this.port = port;
        }

        int fewestBetween(int tongue, int hearer, int set) {
            int heard = 1 << tongue;
            for (int between = 0; between <= MOST_PEOPLE; between++) {
                if ((port.knownBy(hearer) & heard) != 0) {
                    return between;
                }
                heard = passedOn(heard, set, hearer);
            }
            return NONE;
        }

        /** The least set of the fewest by whom all understand on all days, or none. */
        int fewestForAll() {
            int best = NONE;
            int fewest = MOST_PEOPLE + 1;
            for (int set = 0; set < 1 << port.people(); set++) {
                if (Integer.bitCount(set) < fewest && isWeekDealt(set)) {
                    best = set;
                    fewest = Integer.bitCount(set);
                }
            }
            return best;
        }

        private boolean isWeekDealt(int set) {
            for (int tongue = 0; tongue < port.tongues(); tongue++) {
                int heard = heardInTheEnd(tongue, set);
                for (int hearer = 0; hearer < port.people(); hearer++) {
                    if ((port.knownBy(hearer) & heard) == 0) {
                        return false;
                    }
                }
            }
            return true;
        }

        /** A hearer within the set needs no leaving out here: he passes on only what he understands. */
        private int heardInTheEnd(int tongue, int set) {
            int before = 0;
            int heard = 1 << tongue;
            for (int between = 0; between < MOST_PEOPLE && heard != before; between++) {
                before = heard;
                heard = passedOn(heard, set, NOBODY);
            }
            return heard;
        }

        /** The tongues in which it is heard when one person more has passed it on. */
        private int passedOn(int heard, int set, int without) {
            int more = heard;
            for (int person = 0; person < port.people(); person++) {
                int known = port.knownBy(person);
                if (person != without && (set >> person & 1) != 0 && (known & heard) != 0) {
                    more |= known;
                }
            }
            return more;
        }
    }

    /** A word as it is asked; each body leaves its number as it begins. */
    private static class Word {
        private static final int MOST_STEPS = 16;

        private final int number;
        private final int readings;
        private final int[] steps;
        private int taken;

        Word(int number, int readings) {
            this.number = number;
            this.readings = readings;
            steps = new int[MOST_STEPS];
            taken = 0;
        }

        int size() {
            leave(10);
            return readings;
        }

        int mark() {
            leave(20);
            return number;
        }

        final void leave(int body) {
            if (taken < MOST_STEPS) {
                steps[taken] = body;
                taken++;
            }
        }

        final int step(int i) {
            return 0 <= i && i < taken && i < MOST_STEPS ? steps[i] : NONE;
        }
    }

    private static class PlainWord extends Word {
        private final int reading;

        PlainWord(int number, int readings, int reading) {
            super(number, readings);
            this.reading = reading;
        }

        int size() {
            leave(11);
            return super.size() + mark();
        }

        int mark() {
            leave(21);
            return super.mark() + reading;
        }
    }

    private static class CountingWord extends PlainWord {
        CountingWord(int number, int readings, int reading) {
            super(number, readings, reading);
        }

        int mark() {
            leave(22);
            return super.mark() + 1000;
        }
    }

    private static final class LentWord extends CountingWord {
        LentWord(int number, int readings, int reading) {
            super(number, readings, reading);
        }

        int size() {
            leave(12);
            return 0 - super.size();
        }

        int mark() {
            leave(24);
            return 2 * super.mark();
        }
    }

    private static class DoubleWord extends Word {
        private final int common;

        DoubleWord(int number, int readings, int common) {
            super(number, readings);
            this.common = common;
        }

        int size() {
            leave(13);
            return super.size() - mark();
        }

        int mark() {
            leave(23);
            return super.mark() - common;
        }
    }

    private static final class OathWord extends DoubleWord {
        OathWord(int number, int readings, int common) {
            super(number, readings, common);
        }

        int size() {
            leave(14);
            return 2 * super.size();
        }
    }
}
