/** Promises 6 to 12: the tape, ports and their faults, years, words, people. */
public final class PortTest {
    private static final String FULL_TONGUE = "tongue;" + "word plain 1;".repeat(8);

    public static void main(String[] args) {
        feeds();
        fullTape();
        portsRead();
        portsInPlace();
        blanks();
        faults();
        afterFault();
        years();
        yearsOfNothing();
        yearsRefused();
        wordsAndPeople();
        Check.end();
    }

    private static void feeds() {
        DayTongues x = new DayTongues();
        Check.due("feed of 0", x.feed(1L, 0), Check.BAD);
        Check.due("feed of -1", x.feed(1L, -1), Check.BAD);
        Check.due("feed of 9", x.feed(1L, 9), Check.BAD);
        Check.due("tape", x.count(5), 0);
        // The highest byte told comes first; bytes above those told do not come.
        Check.due("feed of 3", x.feed(0xFFFFFFFFFF746F6EL, 3), 3);
        Check.due("feed of 1", x.feed(0x1267L, 1), 4);
        Check.due("feed of 2", x.feed(0x7565L, 2), 6);
        Check.due("feed of 1 more", x.feed(0x3BL, 1), 7);
        Check.due("port()", x.port(), 1);
        Check.due("tape read", x.count(5), 0);
        Check.due("a byte that is no letter", x.feed(-1L, 8), 8);
        Check.due("port()", x.port(), -1000100);
    }

    private static void fullTape() {
        DayTongues x = new DayTongues();
        String text = "tongue;" + " ".repeat(490);
        Check.feed(x, text);
        Check.due("tape", x.count(5), 497);
        Check.due("4 more", x.feed(0x20202020L, 4), Check.FULL);
        Check.due("8 more", x.feed(0x20202020L, 8), Check.FULL);
        Check.due("9 more", x.feed(0x20202020L, 9), Check.BAD);
        Check.due("tape", x.count(5), 497);
        Check.due("3 more", x.feed(0x20203BL, 3), 500);
        Check.due("1 more", x.feed(0x20L, 1), Check.FULL);
        Check.due("port()", x.port(), -1000100 - 499);
        Check.feed(x, "tongue" + " ".repeat(494));
        Check.due("port() that ends", x.port(), -1000100 - 500);
    }

    private static void portsRead() {
        DayTongues x = Check.port("tongue;word oath 1 2;word double 3 4 5;word oath 255;tongue;tongue;word count 007;"
            + "person 7;person 000;person 5;");
        Check.due("TONGUES", x.count(1), 3);
        Check.due("WORDS", x.count(2), 4);
        Check.due("PEOPLE", x.count(3), 3);
        Check.due("oath of two", x.word(0, 0, 0), 2);
        Check.due("007", x.word(2, 0, 1), 7);
        Check.due("000", x.knows(1), 0);
        Check.due("a drift", x.drift(3, 5), 3);
        Check.due("port anew", Check.read(x, "tongue;"), 1);
        Check.due("TONGUES anew", x.count(1), 1);
        Check.due("WORDS anew", x.count(2), 0);
        Check.due("PEOPLE anew", x.count(3), 0);
        Check.due("year anew", x.count(4), 0);
        Check.due("words(0) anew", x.words(0), 0);
        Check.due("words(1) anew", x.words(1), Check.BAD);
        Check.due("knows(0) anew", x.knows(0), Check.BAD);
        String most = "tongue;".repeat(6) + FULL_TONGUE + "person 127;".repeat(8);
        Check.due("the most of all", Check.read(x, most), 7);
        Check.due("the most WORDS", x.words(6), 8);
        Check.due("the most PEOPLE", x.count(3), 8);
        Check.due("knows(7)", x.knows(7), 127);
    }

    /** Ports in one another's place: nothing of those before shows through. */
    private static void portsInPlace() {
        DayTongues x = Check.port("tongue;word oath 1 2 4;word double 8 16;person 1;person 1;");
        Check.due("one more", Check.read(x, "tongue;word plain 32;tongue;word double 3 5;person 3;"), 2);
        Check.due("how many READINGS", x.word(0, 0, 0), 1);
        Check.due("the READING", x.word(0, 0, 1), 32);
        Check.due("no second", x.word(0, 0, 2), Check.NONE);
        Check.due("no second WORD", x.word(0, 1, 0), Check.BAD);
        Check.due("KIND", x.kind(0, 0), 1);
        Check.due("knows(0)", x.knows(0), 3);
        Check.due("knows(1)", x.knows(1), Check.BAD);
        Check.due("and one more", Check.read(x, "tongue;word oath 7 9;word oath 6;tongue;word lent 64;"), 2);
        Check.due("how many READINGS", x.word(0, 0, 0), 2);
        Check.due("the first", x.word(0, 0, 1), 7);
        Check.due("the second", x.word(0, 0, 2), 9);
        Check.due("no third", x.word(0, 0, 3), Check.NONE);
        Check.due("of the second WORD", x.word(0, 1, 1), 6);
        Check.due("of the second TONGUE", x.word(1, 0, 1), 64);
        Check.due("just one there", x.word(1, 0, 0), 1);
    }

    private static void blanks() {
        DayTongues x = new DayTongues();
        Check.due("none needed", Check.read(x, "tongue;word plain1;word double2 3;person1;"), 1);
        Check.due("WORDS", x.count(2), 2);
        Check.due("many", Check.read(x, "\n  tongue\n\n;  word\noath \n1 2\n3 ; person\n 1  ;\n "), 1);
        Check.due("READINGS", x.word(0, 0, 0), 3);
        faulty("tongue;\tword", 1, 7);
        faulty("tongue;\r\nword", 1, 7);
        faulty("tongue;wordplain 1;", 1, 7);
        faulty("tongue;word plain 1 \n", 1, 21);
    }

    /** A text that is no port, in a new object: there is none then. */
    private static void faulty(String text, int number, int place) {
        DayTongues x = new DayTongues();
        fault(x, text, number, place);
        Check.due("no port by " + text, x.count(1), 0);
    }

    private static void fault(DayTongues x, String text, int number, int place) {
        Check.due("port() of " + text, Check.read(x, text), -1000100 - place);
        Check.due("fault() of " + text, x.fault(), number);
        Check.due("tape after " + text, x.count(5), 0);
    }

    private static void faults() {
        faulty("", 1, 0);
        faulty(" \n ", 1, 3);
        faulty("tongu;", 1, 0);
        faulty("tongues;", 1, 0);
        faulty("xongue;", 1, 0);
        faulty("tonguf;", 1, 0);
        faulty("tonguez;", 1, 0);
        faulty("atongue;", 1, 0);
        faulty("tongue{;", 1, 6);
        faulty("tongue`;", 1, 6);
        faulty("tongue;word oath 1/", 1, 18);
        faulty("tongue;word oath 1:", 1, 18);
        faulty("tongue;word oath 09 9;person 09;", 2, 29);
        faulty("Tongue;", 1, 0);
        faulty(";", 1, 0);
        faulty("1;", 1, 0);
        faulty(" person 0;", 1, 1);
        faulty("tongue", 1, 6);
        faulty("tongue 1;", 1, 7);
        faulty("tongue;;", 1, 7);
        faulty("tongue:", 1, 6);
        faulty("tongue;tongue:", 1, 13);
        faulty("tongue;word", 1, 11);
        faulty("tongue;word ;", 1, 12);
        faulty("tongue;word 1;", 1, 12);
        faulty("tongue;word plains 1;", 1, 12);
        faulty("tongue;word plain;", 1, 17);
        faulty("tongue;word plain a;", 1, 18);
        faulty("tongue;word plain 1", 1, 19);
        faulty("tongue;word plain 0;", 2, 18);
        faulty("tongue;word plain 256;", 2, 18);
        faulty("tongue;word plain 999;", 2, 18);
        faulty("tongue;word plain 1000;", 1, 18);
        faulty("tongue;word plain 0001;", 1, 18);
        faulty("tongue;word plain -1;", 1, 18);
        faulty("tongue;word plain 1 0;", 1, 20);
        faulty("tongue;word lent 1 999;", 1, 19);
        faulty("tongue;word count 1 2;", 1, 20);
        faulty("tongue;word double 0;", 2, 19);
        faulty("tongue;word double 1;", 1, 20);
        faulty("tongue;word double 1 256;", 2, 21);
        faulty("tongue;word double 1 2 0;", 2, 23);
        faulty("tongue;word double 1 2 3 0;", 1, 25);
        faulty("tongue;word double 1 2", 1, 22);
        faulty("tongue;word oath;", 1, 16);
        faulty("tongue;word oath 1 1 1 1;", 1, 23);
        faulty("tongue;word oath 1 word", 1, 19);
        faulty("tongue;person;", 1, 13);
        faulty("tongue;person a;", 1, 14);
        faulty("tongue;person 1000;", 1, 14);
        faulty("tongue;person 2;", 2, 14);
        faulty("tongue;person 1 1;", 1, 16);
        faulty("tongue;person 1;word plain 1;", 1, 16);
        faulty("tongue;person 1;tongue;", 1, 16);
        faulty("tongue;person 1;x", 1, 16);
        faulty("tongue;tongue;tongue;person 8;", 2, 28);
        faulty("tongue;".repeat(8), 3, 49);
        faulty("tongue;".repeat(7) + "tongue", 3, 49);
        faulty("tongue;".repeat(7) + "person 0;tongue;", 1, 58);
        faulty(FULL_TONGUE + "word plain 1;", 3, 111);
        faulty(FULL_TONGUE + "word", 3, 111);
        faulty(FULL_TONGUE + "tongue;" + "word oath 1;".repeat(9), 3, 118 + 96);
        faulty("tongue;" + "person 0;".repeat(9), 3, 79);
        faulty("tongue;" + "person 0;".repeat(8) + "word plain 1;", 1, 79);
        faulty("tongue;word plain 0;" + (char) 200, 2, 18);
        faulty("tongue;" + (char) 200 + "word plain 0;", 1, 7);
    }

    private static void afterFault() {
        DayTongues x = Check.port("tongue;word plain 5;person 1;");
        Check.due("fault() before one", x.fault(), 0);
        Check.due("a drift", x.drift(1, 1), 1);
        Check.due("ask", x.ask(0, 0, 1), x.word(0, 0, 1));
        int reading = x.word(0, 0, 1);
        fault(x, "tongue;tongue;word plain 7;word plain 9;person 3;person 4;", 2, 56);
        Check.due("TONGUES stay", x.count(1), 1);
        Check.due("WORDS stay", x.count(2), 1);
        Check.due("PEOPLE stay", x.count(3), 1);
        Check.due("years stay", x.count(4), 1);
        Check.due("a READING stays", x.word(0, 0, 1), reading);
        Check.due("the TRACE stays", x.trace(0), 21);
        Check.due("port()", Check.read(x, "tongue;tongue;"), 2);
        Check.due("fault() stays", x.fault(), 2);
    }

    /** The years as the document tells them, drawn here once more. */
    private static void years() {
        for (int seed : new int[] {1, 2, 77, 12345, 999999}) {
            DayTongues x = Check.port("tongue;word plain 1;word oath 1 2;tongue;tongue;word double 4 8 12;person 1;");
            int[][][] readings = {{{1}, {1, 2}}, {}, {{4, 8, 12}}};
            drift(readings, 100, seed);
            drift(readings, 37, seed);
            Check.due("100 YEARS", x.drift(100, seed), 100);
            Check.due("37 YEARS more", x.drift(37, seed), 137);
            Check.due("years gone", x.count(4), 137);
            for (int tongue = 0; tongue < 3; tongue++) {
                for (int word = 0; word < readings[tongue].length; word++) {
                    for (int which = 0; which < readings[tongue][word].length; which++) {
                        Check.due("READING " + tongue + " " + word + " " + which + " by " + seed,
                            x.word(tongue, word, which + 1), readings[tongue][word][which]);
                    }
                }
            }
            Check.due("who knows", x.knows(0), 1);
        }
    }

    private static void drift(int[][][] readings, int n, int seed) {
        long x = seed;
        for (int year = 0; year < n; year++) {
            x = x * 16807 % 2147483647;
            int[][] words = readings[(int) (x % readings.length)];
            x = x * 16807 % 2147483647;
            if (words.length == 0) {
                continue;
            }
            int[] word = words[(int) (x % words.length)];
            x = x * 16807 % 2147483647;
            int which = (int) (x % word.length);
            x = x * 16807 % 2147483647;
            int part = 1 << x % 8;
            if (word[which] != part) {
                word[which] ^= part;
            }
        }
    }

    private static void yearsOfNothing() {
        DayTongues x = Check.port("tongue;");
        Check.due("years without WORDS", x.drift(100, 5), 100);
        Check.due("years without WORDS", x.drift(1, 999999), 101);
        Check.due("years gone", x.count(4), 101);
    }

    private static void yearsRefused() {
        DayTongues x = new DayTongues();
        Check.due("no PORT", x.drift(0, 0), Check.STATE);
        Check.due("no PORT, told well", x.drift(1, 1), Check.STATE);
        Check.read(x, "tongue;word plain 1;");
        Check.due("0 years", x.drift(0, 1), Check.BAD);
        Check.due("101 years", x.drift(101, 1), Check.BAD);
        Check.due("-1 years", x.drift(-1, 1), Check.BAD);
        Check.due("seed 0", x.drift(1, 0), Check.BAD);
        Check.due("seed 1000000", x.drift(1, 1000000), Check.BAD);
        Check.due("seed below", x.drift(1, Integer.MIN_VALUE), Check.BAD);
        Check.due("no years gone", x.count(4), 0);
        Check.due("a WORD as it was", x.word(0, 0, 1), 1);
    }

    private static void wordsAndPeople() {
        DayTongues x = Check.port("tongue;word plain 255;word double 3 4;tongue;word oath 1 2 3;person 2;person 3;");
        Check.due("how many of a plain one", x.word(0, 0, 0), 1);
        Check.due("its READING", x.word(0, 0, 1), 255);
        Check.due("no second", x.word(0, 0, 2), Check.NONE);
        Check.due("how many of a double one", x.word(0, 1, 0), 2);
        Check.due("its second", x.word(0, 1, 2), 4);
        Check.due("no third", x.word(0, 1, 3), Check.NONE);
        Check.due("the third of an oath", x.word(1, 0, 3), 3);
        int[][] bad = {{-1, 0, 0}, {2, 0, 0}, {0, -1, 0}, {0, 2, 0}, {1, 1, 0}, {0, 0, -1}, {0, 0, 4},
            {Integer.MAX_VALUE, 0, 0}, {0, Integer.MAX_VALUE, 0}, {0, 8, 0}, {7, 0, 0}};
        for (int[] call : bad) {
            Check.due("word of " + call[0] + " " + call[1] + " " + call[2], x.word(call[0], call[1], call[2]), Check.BAD);
        }
        Check.due("words(0)", x.words(0), 2);
        Check.due("words(1)", x.words(1), 1);
        Check.due("words(2)", x.words(2), Check.BAD);
        Check.due("words(-1)", x.words(-1), Check.BAD);
        Check.due("knows(0)", x.knows(0), 2);
        Check.due("knows(1)", x.knows(1), 3);
        Check.due("knows(2)", x.knows(2), Check.BAD);
        Check.due("knows(-1)", x.knows(-1), Check.BAD);
        Check.due("knows(8)", x.knows(8), Check.BAD);
    }
}
