/** What is empty, what is full, what comes first of several, what wraps around, what takes all its calls. */
public final class CasesTest {
    public static void main(String[] args) {
        days();
        daysOfBargains();
        tongueWithoutWords();
        portWithoutPeople();
        rowWithoutItems();
        fullRow();
        fullPort();
        sure();
        firstOfSeveral();
        notHeHimself();
        weekOfEachDay();
        grownByNothing();
        oneYear();
        onlyPart();
        tongueWithoutWordsDrifts();
        yearsGoOn();
        imagesTwice();
        traceOfEach();
        statusOfEach();
        allCalls();
        Check.end();
    }

    /** Tongue t has just the word that means t and one. */
    private static String tongues(int many) {
        StringBuilder told = new StringBuilder();
        for (int tongue = 0; tongue < many; tongue++) {
            told.append("tongue;word plain ").append(tongue + 1).append(';');
        }
        return told.toString();
    }

    private static void days() {
        for (int many = 1; many <= 7; many++) {
            DayTongues x = Check.port(tongues(many) + "person 1;person " + ((1 << many) - 1) + ";");
            Check.lay(x, 0, 0, 0);
            for (int turn = 0; turn < 40; turn++) {
                int day = turn < 20 ? turn : 1000020 - turn;
                int tongue = day % many;
                String told = "day " + day + " of " + many;
                Check.due("means on " + told, x.means(day, 0, 0, 1, 0), tongue + 1);
                Check.due("shortest on " + told, x.shortest(day, tongue + 1, 1, -1), 1);
                Check.due("sayable on " + told, x.sayable(day, 0), 2);
                Check.due("understands on " + told, x.understands(day, 0, 2), tongue == 0 ? 0 : 1);
            }
            Check.due("dated", x.dated(0, 0, 1, many), 1 << many - 1);
        }
    }

    private static void daysOfBargains() {
        for (int many = 1; many <= 7; many++) {
            DayTongues x = Check.port(tongues(many));
            for (int day : new int[] {0, many - 1, many, 1000000, 1000001, 123456789, Integer.MAX_VALUE - 1, Integer.MAX_VALUE}) {
                Check.lay(x, 0, 2, day, 1, 0);
                Check.due("bargain of day " + day + " of " + many, x.bargain(0, 1, 0), day % many + 1);
            }
            Check.lay(x, 0, 0, 127, 1, 0);
            Check.due("bargain of bytes", x.bargain(0, 1, 0), 127 % many + 1);
            Check.lay(x, 0, 0, 128, 1, 0);
            Check.due("a day that is below 0 as a byte", x.bargain(0, 1, 0), Check.BAD);
        }
    }

    private static void tongueWithoutWords() {
        DayTongues x = Check.port("tongue;person 1;person 0;");
        Check.lay(x, 0, 0, 0);
        Check.due("words", x.words(0), 0);
        Check.due("means of none, how many", x.means(0, 0, 0, 0, -1), 1);
        Check.due("means of none", x.means(0, 0, 0, 0, 0), 0);
        Check.due("means of none, the next", x.means(0, 0, 0, 0, 1), Check.NONE);
        Check.due("means of any", x.means(0, 0, 0, 1, 0), Check.BAD);
        for (int what = 0; what <= 1; what++) {
            Check.due("nothing is said", x.shortest(0, 0, what, -1), 0);
            Check.due("by no WORD", x.shortest(0, 0, what, 0), Check.NONE);
            Check.due("1 is not said", x.shortest(0, 1, what, -1), Check.NONE);
            Check.due("255 is not said", x.shortest(0, 255, what, 0), Check.NONE);
            Check.due("sayable", x.sayable(0, what), 1);
        }
        Check.due("letIn", x.letIn(1), 0);
        Check.due("dated of none", x.dated(0, 0, 0, 0), 1);
        Check.due("dated of none as 1", x.dated(0, 0, 0, 1), 0);
        Check.due("dated of any", x.dated(0, 0, 1, 0), 0);
        Check.due("who knows it", x.understands(0, 0, 0), 0);
        Check.due("who knows none", x.understands(0, 1, 255), Check.NONE);
        Check.due("word", x.word(0, 0, 0), Check.BAD);
        Check.due("count(2)", x.count(2), 0);
    }

    private static void portWithoutPeople() {
        DayTongues x = Check.port("tongue;tongue;word plain 1;");
        Check.due("week(0)", x.week(0), 0);
        Check.due("week(1)", x.week(1), 0);
        Check.due("understands", x.understands(0, 0, 255), Check.BAD);
        Check.due("knows", x.knows(0), Check.BAD);
        Check.due("count(3)", x.count(3), 0);
    }

    private static void rowWithoutItems() {
        DayTongues x = Check.port("tongue;word plain 1;");
        Check.due("row of none", x.row(0, 0, 0), 0);
        Check.due("count(0)", x.count(0), 1);
        Check.due("means", x.means(0, 0, 0, 0, 0), 0);
        Check.due("means of one", x.means(0, 0, 0, 1, 0), Check.PLACE);
        Check.due("means behind it", x.means(0, 0, 1, 0, 0), Check.PLACE);
        Check.due("means ahead of it", x.means(0, 0, -1, 0, 0), Check.PLACE);
        Check.due("dated", x.dated(0, 0, 0, 0), 1);
        Check.due("dated of one", x.dated(0, 0, 1, 0), Check.PLACE);
        Check.due("bargain", x.bargain(0, 1, 0), Check.PLACE);
        Check.due("set", x.set(0, 0, 0), Check.PLACE);
        Check.due("copy", x.copy(0, 0, 0, 0, 0), 0);
        Check.due("copy of one", x.copy(0, 0, 0, 0, 1), Check.PLACE);
        Check.due("drop", x.drop(0), 0);
        Check.due("count(0)", x.count(0), 0);
        Check.due("means when dropped", x.means(0, 0, 0, 0, 0), Check.NULL);
        Check.due("dated when dropped", x.dated(0, 0, 0, 0), Check.NULL);
        Check.due("bargain when dropped", x.bargain(0, 1, 0), Check.NULL);
    }

    /** Five sayings of six words each take just the 40 items that a row may have. */
    private static void fullRow() {
        DayTongues x = Check.port("tongue;word double 1 2;word oath 4 8 16;");
        Check.due("row", x.row(0, 0, 40), 40);
        for (int saying = 0; saying < 5; saying++) {
            x.set(0, 8 * saying, saying);
            x.set(0, 8 * saying + 1, 6);
            for (int word = 0; word < 6; word++) {
                x.set(0, 8 * saying + 2 + word, word <= saying ? 0 : 1);
            }
        }
        // The first saying has just one of 1 and 2, the last just one of 4, 8, 16.
        Check.due("bargain of all", x.bargain(0, 5, -1), 6);
        Check.due("the first", x.bargain(0, 5, 0), 5);
        Check.due("the last", x.bargain(0, 5, 5), 18);
        Check.due("one more", x.bargain(0, 5, 6), Check.NONE);
        Check.due("the last six WORDS", x.means(0, 0, 34, 6, -1), 9);
        Check.due("six beyond the end", x.means(0, 0, 35, 6, -1), Check.PLACE);
        Check.due("the last ITEM", x.means(0, 0, 39, 1, 0), 4);
        Check.due("behind it", x.means(0, 0, 40, 1, 0), Check.PLACE);
        Check.due("one ITEM less", x.row(1, 0, 39), 39);
        Check.due("copied", x.copy(0, 0, 1, 0, 39), 39);
        Check.due("four SAYINGS of it", x.bargain(1, 4, -1), 12);
        Check.due("five SAYINGS of it", x.bargain(1, 5, -1), Check.PLACE);
    }

    private static void fullPort() {
        DayTongues x = Check.port("tongue;" + "word oath 1 2 4;word oath 8 16 32;word oath 64 128 255;".repeat(2)
            + "word oath 1 8 64;word oath 2 16 128;");
        Check.lay(x, 0, 0, 0, 1, 2, 3, 4, 5);
        Check.due("sayable", x.sayable(0, 0), 256);
        Check.due("sure", x.sayable(0, 1), 1);
        Check.due("255 by one", x.shortest(0, 255, 0, 0), 2);
        Check.due("127 by four", x.shortest(0, 127, 0, -1), 7);
        int many = x.means(0, 0, 0, 6, -1);
        Check.due("no more meanings than these", x.means(0, 0, 0, 6, many), Check.NONE);
        Check.due("the greatest of them", x.means(0, 0, 0, 6, many - 1), 255);
        DayTongues y = Check.port(Check.EIGHT);
        for (int meaning = 0; meaning < 256; meaning++) {
            Check.due("how many WORDS for " + meaning, y.shortest(0, meaning, 1, -1), Integer.bitCount(meaning));
        }
        Check.due("sure of all", y.sayable(0, 1), 256);
        Check.due("said of all", y.sayable(0, 0), 256);
    }

    /** Sure is what may mean just one set, be a word of two readings in it. */
    private static void sure() {
        DayTongues x = Check.port("tongue;word double 1 3;word plain 2;tongue;word double 4 4;tongue;word oath 1 2;word plain 3;");
        Check.due("1 3 alone may mean 1", x.shortest(0, 1, 0, -1), 1);
        Check.due("1 is not sure", x.shortest(0, 1, 1, -1), Check.NONE);
        Check.due("3 is not sure by one", x.shortest(0, 3, 1, -1), 2);
        Check.due("1 3 first", x.shortest(0, 3, 1, 0), 0);
        Check.due("2 behind", x.shortest(0, 3, 1, 1), 1);
        Check.due("0, 2, 3 are sure", x.sayable(0, 1), 3);
        Check.due("4 4 is sure", x.shortest(1, 4, 1, -1), 1);
        Check.due("0, 4 are sure", x.sayable(1, 1), 2);
        Check.due("3 is sure by plain 3", x.shortest(2, 3, 1, 0), 1);
        Check.due("3 may be meant by it, too", x.shortest(2, 3, 0, 0), 1);
        Check.due("0, 3 are sure", x.sayable(2, 1), 2);
    }

    private static void firstOfSeveral() {
        DayTongues x = Check.port("tongue;word plain 3;word plain 12;word plain 6;word plain 9;word plain 3;word plain 15;");
        Check.due("the fewest, not the first", x.shortest(0, 15, 0, -1), 1);
        Check.due("by word 5", x.shortest(0, 15, 1, 0), 5);
        Check.due("of two that mean the same", x.shortest(0, 3, 0, 0), 0);
        Check.due("7 by two", x.shortest(0, 7, 0, -1), 2);
        Check.due("0 first", x.shortest(0, 7, 0, 0), 0);
        Check.due("2 behind", x.shortest(0, 7, 0, 1), 2);
        DayTongues y = Check.port("tongue;word plain 1;word plain 2;word plain 4;word plain 5;word plain 6;word plain 3;");
        // 7 is meant by 0 4, by 1 3, by 2 5, by 3 4 and others: 0 4 is first.
        Check.due("0 first", y.shortest(0, 7, 1, 0), 0);
        Check.due("4 behind", y.shortest(0, 7, 1, 1), 4);
        DayTongues z = Check.port("tongue;tongue;person 1;person 2;person 3;person 3;");
        Check.due("one of two who can", z.week(0), 1);
        Check.due("the least as bits", z.week(1), 4);
        DayTongues w = Check.port("tongue;word plain 1;tongue;word plain 1;tongue;word plain 2;");
        Check.due("the first of those that grow alike", w.letIn(4), 0);
        Check.due("the first of two that grow", w.letIn(2), 0);
        Check.due("the one that grows", w.letIn(1), 2);
    }

    private static void notHeHimself() {
        DayTongues x = Check.port("tongue;tongue;tongue;person 6;person 3;person 4;");
        Check.due("by another", x.understands(0, 0, 2), 1);
        Check.due("by another, himself told, too", x.understands(0, 0, 3), 1);
        Check.due("himself is nobody between", x.understands(0, 0, 1), Check.NONE);
        Check.due("by both of the others", x.understands(0, 2, 3), 2);
        Check.due("himself told, not the one wanted", x.understands(0, 2, 5), Check.NONE);
        Check.due("by all but him", x.understands(0, 2, 255), 2);
        Check.due("bits for nobody", x.understands(0, 2, 248), Check.NONE);
        Check.due("bits for nobody beside", x.understands(0, 2, 251), 2);
        Check.due("knows it, by none", x.understands(1, 0, 0), 0);
    }

    private static void weekOfEachDay() {
        // The tongue of the last day is known by one alone.
        Check.due("none between", Check.port("tongue;tongue;tongue;person 3;person 7;person 4;").week(1), 2);
        Check.due("the last day by nobody", Check.port("tongue;tongue;tongue;person 3;person 3;").week(1), Check.NONE);
        Check.due("the first day by nobody", Check.port("tongue;tongue;tongue;person 6;person 6;").week(0), Check.NONE);
        Check.due("one who knows all", Check.port("tongue;tongue;tongue;person 7;").week(0), 0);
        Check.due("one who does not", Check.port("tongue;tongue;tongue;person 5;").week(0), Check.NONE);
        Check.due("eight, by the eighth", Check.port("tongue;tongue;" + "person 1;".repeat(7) + "person 3;").week(1), 128);
        Check.due("eight, by six", Check.port("tongue;".repeat(7)
            + "person 1;person 3;person 6;person 12;person 24;person 48;person 96;person 64;").week(0), 6);
        Check.due("eight, by whom", Check.port("tongue;".repeat(7)
            + "person 1;person 3;person 6;person 12;person 24;person 48;person 96;person 64;").week(1), 126);
    }

    private static void grownByNothing() {
        String seven = "word plain 1;".repeat(7);
        Check.due("nothing in any", Check.port("tongue;word plain 1;tongue;word plain 1;").letIn(1), 0);
        Check.due("nothing in any but a full one", Check.port("tongue;" + seven + "word plain 1;tongue;word plain 1;").letIn(1), 1);
        Check.due("most in a full one", Check.port("tongue;word plain 2;tongue;" + seven + "word plain 1;").letIn(2), 0);
        Check.due("all full", Check.port("tongue;" + seven + "word plain 2;tongue;" + seven + "word plain 2;").letIn(4), Check.NONE);
        DayTongues x = Check.port("tongue;" + seven);
        Check.due("room for one", x.letIn(255), 0);
        Check.due("but none is let in", x.words(0), 7);
    }

    /** X after some draws. */
    private static long draws(int seed, int many) {
        long x = seed;
        for (int i = 0; i < many; i++) {
            x = x * 16807 % 2147483647;
        }
        return x;
    }

    private static void oneYear() {
        for (int seed : new int[] {1, 2, 3, 65535, 127774, 127773, 500000, 999998, 999999}) {
            DayTongues x = Check.port("tongue;word plain 3;word double 7 24;tongue;word oath 12 80 160;word plain 192;");
            int[][][] before = {{{3}, {7, 24}}, {{12, 80, 160}, {192}}};
            int tongue = (int) (draws(seed, 1) % 2);
            int word = (int) (draws(seed, 2) % 2);
            int which = (int) (draws(seed, 3) % before[tongue][word].length);
            int part = (int) (draws(seed, 4) % 8);
            before[tongue][word][which] ^= 1 << part;
            Check.due("one year", x.drift(1, seed), 1);
            for (int t = 0; t < 2; t++) {
                for (int w = 0; w < 2; w++) {
                    for (int r = 0; r < before[t][w].length; r++) {
                        Check.due("READING " + t + " " + w + " " + r + " by " + seed, x.word(t, w, r + 1), before[t][w][r]);
                    }
                }
            }
        }
    }

    /** The only part of a reading stays; one of two goes; each other comes, and goes again. */
    private static void onlyPart() {
        boolean[] seen = new boolean[8];
        for (int seed = 1; seed <= 200; seed++) {
            int part = 1 << draws(seed, 4) % 8;
            seen[(int) (draws(seed, 4) % 8)] = true;
            DayTongues x = Check.port("tongue;word plain " + part + ";");
            Check.due("a year", x.drift(1, seed), 1);
            Check.due("the only part stays", x.word(0, 0, 1), part);
            int other = part == 1 ? 2 : 1;
            DayTongues y = Check.port("tongue;word plain " + other + ";");
            Check.due("a year", y.drift(1, seed), 1);
            Check.due("another part comes", y.word(0, 0, 1), other | part);
            Check.due("a year", y.drift(1, seed), 2);
            Check.due("and goes", y.word(0, 0, 1), other);
            DayTongues z = Check.port("tongue;word plain 255;");
            Check.due("a year", z.drift(1, seed), 1);
            Check.due("one of all goes", z.word(0, 0, 1), 255 - part);
        }
        for (boolean one : seen) {
            Check.due("each part is seen", one ? 1 : 0, 1);
        }
    }

    /** Where the first draw tells a tongue without words, one draw more is all that happens. */
    private static void tongueWithoutWordsDrifts() {
        int seen = 0;
        for (int seed = 1; seed <= 60; seed++) {
            if (draws(seed, 1) % 2 != 0 || draws(seed, 3) % 2 != 1) {
                continue;
            }
            seen++;
            DayTongues x = Check.port("tongue;tongue;word plain 255;");
            Check.due("a year", x.drift(1, seed), 1);
            Check.due("nothing happens", x.word(1, 0, 1), 255);
            Check.due("two years", x.drift(2, seed), 3);
            Check.due("the second begins behind two draws", x.word(1, 0, 1), 255 - (1 << draws(seed, 6) % 8));
        }
        Check.due("seeds seen", seen > 5 ? 1 : 0, 1);
    }

    private static void yearsGoOn() {
        DayTongues x = Check.port("tongue;word plain 85;");
        DayTongues y = Check.port("tongue;word plain 85;");
        Check.due("100 years", x.drift(100, 999999), 100);
        Check.due("100 years more", x.drift(100, 1), 200);
        Check.due("one more", x.drift(1, 1), 201);
        for (int n = 1; n <= 100; n++) {
            Check.due("a year of a seed of its own", y.drift(1, n), n);
        }
        Model z = new Model();
        for (char c : "tongue;word plain 85;".toCharArray()) {
            z.feed(c, 1);
        }
        Check.due("the model's port", z.port(), 1);
        for (int n = 1; n <= 100; n++) {
            z.drift(1, n);
        }
        Check.due("the READING after 100 seeds", y.word(0, 0, 1), z.word(0, 0, 1));
        Check.due("years", y.count(4), 100);
    }

    private static void imagesTwice() {
        DayTongues x = Check.port("tongue;word plain 1;");
        Check.due("image(0)", x.image(0), 1);
        Check.due("image(0) again", x.image(0), 1);
        Check.due("restore(1)", x.restore(1), Check.STATE);
        Check.due("a port", Check.read(x, "tongue;tongue;word double 1 2;person 3;"), 2);
        Check.due("image(1)", x.image(1), 1);
        Check.due("restore(0)", x.restore(0), 1);
        Check.due("its TONGUES", x.count(1), 1);
        Check.due("its PEOPLE", x.count(3), 0);
        Check.due("no second TONGUE", x.words(1), Check.BAD);
        Check.due("restore(0) again", x.restore(0), 1);
        Check.due("a year", x.drift(1, 1), 1);
        Check.due("restore(1)", x.restore(1), 1);
        Check.due("its TONGUES", x.count(1), 2);
        Check.due("its PEOPLE", x.count(3), 1);
        Check.due("its years", x.count(4), 0);
        Check.due("a fault", Check.read(x, "tongue"), -1000106);
        Check.due("image 0 stays by a fault", x.restore(0), 1);
        Check.due("its years", x.count(4), 0);
        Check.due("its WORD", x.word(0, 0, 1), 1);
    }

    private static void traceOfEach() {
        DayTongues x = Check.port("tongue;word lent 1;word plain 1;");
        Check.due("no ask yet", x.trace(0), Check.NONE);
        Check.due("ask", x.ask(0, 0, 0), -(1 + 2 * 1001));
        Check.due("the last", x.trace(6), 20);
        Check.due("behind it", x.trace(7), Check.NONE);
        Check.due("ask, refused", x.ask(0, 0, 2), Check.BAD);
        Check.due("the last stays", x.trace(6), 20);
        Check.due("as", x.as(0, 1, 1), 1);
        Check.due("the last stays by as", x.trace(6), 20);
        Check.due("drift", x.drift(1, 1), 1);
        Check.due("image", x.image(0), 1);
        Check.due("restore", x.restore(0), 1);
        Check.due("the last stays by years, images", x.trace(6), 20);
        Check.due("ask", x.ask(0, 1, 1) - x.word(0, 1, 1), 1);
        Check.due("the first", x.trace(0), 21);
        Check.due("the second", x.trace(1), 20);
        Check.due("no third", x.trace(2), Check.NONE);
        Check.due("no seventh", x.trace(6), Check.NONE);
    }

    private static void statusOfEach() {
        DayTongues x = new DayTongues();
        Check.due("none yet", x.status(), 0);
        Check.due("BAD", x.row(8, 0, 0), Check.BAD);
        Check.due("none still", x.status(), 0);
        Check.due("STATE", x.means(0, 0, 0, 0, 0), Check.STATE);
        Check.due("none still", x.status(), 0);
        Check.due("NULL", x.set(0, 0, 0), Check.NULL);
        Check.due("1", x.status(), 1);
        Check.due("1 again", x.status(), 1);
        Check.due("SIZE", x.row(0, 0, -1), Check.SIZE);
        Check.due("4", x.status(), 4);
        Check.due("a fault", x.port(), -1000100);
        Check.due("4 still", x.status(), 4);
        Check.due("row", x.row(0, 0, 1), 1);
        Check.due("0", x.status(), 0);
        Check.due("PLACE", x.set(0, 1, 0), Check.PLACE);
        Check.due("2", x.status(), 2);
        Check.due("row", x.row(1, 1, 1), 1);
        Check.due("STORE", x.copy(0, 0, 1, 0, 1), Check.STORE);
        Check.due("5", x.status(), 5);
        Check.due("a port", Check.read(x, "tongue;word oath 1;"), 1);
        Check.due("5 still", x.status(), 5);
        Check.due("as", x.as(0, 0, 4), 0);
        Check.due("0", x.status(), 0);
        Check.due("KIND", x.as(0, 0, 3), Check.KIND);
        Check.due("3", x.status(), 3);
        Check.due("as, BAD", x.as(0, 1, 0), Check.BAD);
        Check.due("3 still", x.status(), 3);
        Check.due("means, NONE", x.means(0, 0, 0, 1, 1), Check.NONE);
        Check.due("0", x.status(), 0);
    }

    /** The 512th call still answers, be they all of one sort. */
    private static void allCalls() {
        // Seven calls read this port: three feeds, count(5) beside each, port(); four more lay the row.
        DayTongues years = Check.port("tongue;word lent 1;");
        Check.lay(years, 0, 2, 0, 1, 0);
        for (int call = 0; call < 500; call++) {
            Check.due("drift", years.drift(100, 1 + call), 100 * (call + 1));
        }
        Check.due("years", years.count(4), 50000);
        DayTongues asks = Check.port("tongue;word lent 1;");
        for (int call = 0; call < 500; call++) {
            Check.due("ask", asks.ask(0, 0, 0), -(1 + 2 * 1001));
        }
        Check.due("the trace", asks.trace(6), 20);
        DayTongues taken = Check.port("tongue;word oath 1;");
        for (int call = 0; call < 500; call++) {
            Check.due("as", taken.as(0, 0, call % 6), call % 6 == 0 || call % 6 >= 4 ? 0 : Check.KIND);
        }
        DayTongues ports = new DayTongues();
        for (int call = 0; call < 512; call += 2) {
            Check.due("feed", ports.feed(0x746F6E6775653BL, 7), 7);
            Check.due("port", ports.port(), 1);
        }
    }
}
