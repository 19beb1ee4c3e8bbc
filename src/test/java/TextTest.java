/** The text of a port: each byte, each number, each count of readings, words, tongues, people; each text cut or changed. */
public final class TextTest {
    private static final String[] SORTS = {"plain", "count", "lent", "double", "oath"};
    private static final int[] LEAST = {1, 1, 1, 2, 1};
    private static final int[] MOST = {1, 1, 1, 3, 3};

    public static void main(String[] args) {
        bytes();
        readingNumbers();
        personNumbers();
        figures();
        readings();
        tooMany();
        leastOfOneToken();
        firstToken();
        ends();
        mostBytes();
        cutAndChanged();
        inPlace();
        Check.end();
    }

    private static void well(String text, int tongues) {
        DayTongues x = new DayTongues();
        Check.due("port() of " + text, Check.read(x, text), tongues);
        Check.due("fault() of " + text, x.fault(), 0);
        Check.due("the tape of " + text, x.count(5), 0);
    }

    private static void faulty(String text, int number, int place) {
        DayTongues x = new DayTongues();
        Check.due("port() of " + text, Check.read(x, text), -1000100 - place);
        Check.due("fault() of " + text, x.fault(), number);
        Check.due("the tape of " + text, x.count(5), 0);
        Check.due("TONGUES of " + text, x.count(1), 0);
    }

    /** Each byte ahead of, within, between, behind tokens: just 32 and 10 are nothing, just a to z go on with a name. */
    private static void bytes() {
        for (int b = 0; b < 256; b++) {
            char c = (char) b;
            if (b == 32 || b == 10) {
                blank(c);
            } else if (c >= 'a' && c <= 'z') {
                letter(c);
            } else if (c >= '0' && c <= '9') {
                figure(c);
            } else if (c == ';') {
                well("tongue" + c, 1);
                faulty("tongue" + c + c, 1, 7);
            } else {
                noToken(c);
            }
        }
    }

    private static void blank(char c) {
        String many = ("" + c).repeat(3);
        for (String gap : new String[] {"" + c, many, " " + c, c + "\n"}) {
            well(gap + "tongue" + gap + ";" + gap + "word" + gap + "double" + gap + "7" + gap + "8" + gap + ";" + gap + "person"
                + gap + "1" + gap + ";" + gap, 1);
        }
        faulty("ton" + c + "gue;", 1, 0);
        faulty("tongue;word pla" + c + "in 7;", 1, 12);
        faulty("tongue;word plain 7" + c + "7;", 1, 20);
    }

    private static void letter(char c) {
        faulty(c + "tongue;", 1, 0);
        faulty("tongue" + c + ";", 1, 0);
        faulty("tongue;word" + c + " plain 7;", 1, 7);
        faulty("tongue;word plain" + c + " 7;", 1, 12);
        faulty("tongue;word plain 7" + c + ";", 1, 19);
        faulty("tongue;word plain 7;" + c, 1, 20);
        if (c != 'n') {
            faulty("to" + c + "gue;", 1, 0);
        }
    }

    private static void figure(char c) {
        faulty(c + "tongue;", 1, 0);
        faulty("tongue" + c + ";", 1, 6);
        faulty("tongue;word" + c + ";", 1, 11);
        well("tongue;word plain 7" + c + ";", 1);
        well("tongue;word plain7" + c + ";", 1);
        well("tongue;word plain 17" + c + ";", 1);
        faulty("tongue;word plain 117" + c + ";", 1, 18);
        faulty("tongue;word plain 7;" + c, 1, 20);
        faulty("to" + c + "ngue;", 1, 0);
    }

    private static void noToken(char c) {
        faulty(c + "tongue;", 1, 0);
        faulty("ton" + c + "gue;", 1, 0);
        faulty("tongue" + c + ";", 1, 6);
        faulty("tongue " + c + ";", 1, 7);
        faulty("tongue;" + c, 1, 7);
        faulty("tongue;word" + c + " plain 7;", 1, 11);
        faulty("tongue;word plain" + c + " 7;", 1, 17);
        faulty("tongue;word plain " + c + "7;", 1, 18);
        faulty("tongue;word plain 7" + c + ";", 1, 19);
        faulty("tongue;word double 7" + c + "7;", 1, 20);
        faulty("tongue;person 1" + c + ";", 1, 15);
        faulty("tongue;person 1;" + c, 1, 16);
    }

    private static void readingNumbers() {
        for (int v = 0; v < 1000; v++) {
            boolean is = v >= 1 && v <= 255;
            DayTongues x = new DayTongues();
            Check.due("READING " + v, Check.read(x, "tongue;word oath 3 " + v + ";"), is ? 1 : -1000100 - 19);
            Check.due("fault() of " + v, x.fault(), is ? 0 : 2);
            Check.due("the second READING", x.word(0, 0, 2), is ? v : Check.BAD);
        }
    }

    /** A person may know any of the tongues told, or none. */
    private static void personNumbers() {
        for (int tongues = 1; tongues <= 7; tongues++) {
            String told = "tongue;".repeat(tongues);
            for (int v = 0; v < 1000; v++) {
                boolean is = v < 1 << tongues;
                DayTongues x = new DayTongues();
                Check.due("PERSON " + v + " of " + tongues, Check.read(x, told + "person " + v + ";"),
                    is ? tongues : -1000100 - 7 * tongues - 7);
                Check.due("fault() of " + v, x.fault(), is ? 0 : 2);
                Check.due("knows(0)", x.knows(0), is ? v : Check.BAD);
            }
        }
    }

    /** Three figures are a number, four are none, whatever they come to. */
    private static void figures() {
        well("tongue;word plain 1;person 1;", 1);
        well("tongue;word plain 01;person 01;", 1);
        well("tongue;word plain 001;person 001;", 1);
        well("tongue;word plain 255;person 000;", 1);
        faulty("tongue;word plain 0001;", 1, 18);
        faulty("tongue;word plain 1000;", 1, 18);
        faulty("tongue;word plain 00000000000000000001;", 1, 18);
        faulty("tongue;word plain 9999999999999999;", 1, 18);
        faulty("tongue;person 0000;", 1, 14);
        faulty("tongue;person 0001;", 1, 14);
        faulty("tongue;word double 1 0002;", 1, 21);
        faulty("tongue;word double 1 2 0003;", 1, 23);
        faulty("tongue;word oath 1 0002;", 1, 19);
        faulty("tongue;word plain 000;", 2, 18);
        faulty("tongue;word plain 00;", 2, 18);
    }

    /** Each sort with none to five readings: fewer than it must have, just these, more than it may. */
    private static void readings() {
        for (int sort = 0; sort < SORTS.length; sort++) {
            for (int n = 0; n <= 5; n++) {
                String head = "tongue;word " + SORTS[sort];
                String text = head + " 7".repeat(n);
                if (n < LEAST[sort]) {
                    faulty(text + ";", 1, text.length());
                    faulty(text, 1, text.length());
                    faulty(text + " x;", 1, text.length() + 1);
                    faulty(text + ";word plain 0;", 1, text.length());
                } else if (n > MOST[sort]) {
                    int place = head.length() + 2 * MOST[sort] + 1;
                    faulty(text + ";", 1, place);
                    faulty(text, 1, place);
                    faulty(head + " 7".repeat(MOST[sort]) + " 0;", 1, place);
                    faulty(head + " 7".repeat(MOST[sort]) + " 999;", 1, place);
                } else {
                    DayTongues x = new DayTongues();
                    Check.due("port() of " + text, Check.read(x, text + ";"), 1);
                    Check.due("READINGS of " + text, x.word(0, 0, 0), n);
                    Check.due("KIND of " + text, x.kind(0, 0), sort + 1);
                    Check.due("the last of " + text, x.word(0, 0, n), 7);
                    Check.due("one more of " + text, x.word(0, 0, n + 1), n == 3 ? Check.BAD : Check.NONE);
                    faulty(text, 1, text.length());
                    faulty(text + " 0;", n == MOST[sort] ? 1 : 2, text.length() + 1);
                    faulty(text + " 256;", n == MOST[sort] ? 1 : 2, text.length() + 1);
                }
            }
        }
        faulty("tongue;word;", 1, 11);
        faulty("tongue;word word 1;", 1, 12);
        faulty("tongue;word tongue 1;", 1, 12);
        faulty("tongue;word plainx 1;", 1, 12);
        faulty("tongue;word plai 1;", 1, 12);
        faulty("tongue;word 7 plain;", 1, 12);
    }

    private static void tooMany() {
        String word = "word lent 5;";
        for (int n = 0; n <= 9; n++) {
            String tongues = "tongue;".repeat(n);
            String words = "tongue;tongue;" + word.repeat(n);
            String people = "tongue;" + "person 1;".repeat(n);
            if (n == 0) {
                faulty(tongues, 1, 0);
            } else if (n <= 7) {
                well(tongues, n);
            } else {
                faulty(tongues, 3, 49);
            }
            if (n <= 8) {
                well(words, 2);
                well(people, 1);
                well(words + "tongue;" + word.repeat(n), 3);
            } else {
                faulty(words, 3, 14 + 8 * 12);
                faulty(people, 3, 7 + 8 * 9);
                faulty(words.substring(0, 14 + 8 * 12) + "tongue;" + word.repeat(n), 3, 21 + 16 * 12);
            }
        }
        String most = "tongue;".repeat(6) + "tongue;" + "word oath 1 2 3;".repeat(8) + "person 127;".repeat(8);
        well(most, 7);
        faulty(most + "person 127;", 3, most.length());
        faulty(most + "person", 3, most.length());
        faulty(most + " \n person x", 3, most.length() + 3);
        faulty("tongue;".repeat(7) + "tongue", 3, 49);
        faulty("tongue;".repeat(7) + "tongue x", 3, 49);
        faulty("tongue;" + word.repeat(8) + "word", 3, 7 + 96);
        faulty("tongue;" + word.repeat(8) + "word sung 0;", 3, 7 + 96);
    }

    /** What cannot stand at all is 1, be there no room for it, too, or be it no such number. */
    private static void leastOfOneToken() {
        String word = "word lent 5;";
        faulty("tongue;" + word.repeat(8) + "person 1;word lent 5;", 1, 7 + 96 + 9);
        faulty("tongue;".repeat(7) + "person 1;tongue;", 1, 58);
        faulty("tongue;".repeat(7) + "word tongue;", 1, 54);
        faulty("tongue;" + "person 1;".repeat(8) + "tongue;", 1, 79);
        faulty("tongue;word plain 1 0;", 1, 20);
        faulty("tongue;person 1 2;", 1, 16);
        faulty("tongue 0;", 1, 7);
        faulty("tongue;word 0 plain;", 1, 12);
        faulty("tongue;person;", 1, 13);
        faulty("tongue;person person 1;", 1, 14);
    }

    private static void firstToken() {
        faulty("tongue;word plain 0;word sung;", 2, 18);
        faulty("tongue;word sung 0;", 1, 12);
        faulty("tongue;person 2;tongue", 2, 14);
        faulty("tongue;person 2", 2, 14);
        faulty("tongue;word plain 256", 2, 18);
        faulty("tongue;person 1;person 4;;", 2, 23);
        faulty("tongue;;person 4;", 1, 7);
        faulty("tongue;".repeat(8) + "?", 3, 49);
        faulty("tongue;?" + "tongue;".repeat(8), 1, 7);
        faulty("word plain 0;", 1, 0);
        faulty("person 9;", 1, 0);
        faulty("x", 1, 0);
    }

    /** Where a token must be and the text ends: how many bytes there are, the blanks among them. */
    private static void ends() {
        faulty("", 1, 0);
        faulty(" ", 1, 1);
        faulty("\n\n \n", 1, 4);
        faulty("tongue", 1, 6);
        faulty("tongue \n ", 1, 9);
        faulty("tongue;word ", 1, 12);
        faulty("tongue;word plain  ", 1, 19);
        faulty("tongue;word plain 1  ", 1, 21);
        faulty("tongue;word double 1 2 3 ", 1, 25);
        faulty("tongue;person ", 1, 14);
        faulty("tongue;person 1\n", 1, 16);
        well("tongue; ", 1);
        well("tongue;\n", 1);
        well("tongue;word plain 1; \n", 1);
        well("tongue;person 1;\n ", 1);
    }

    private static void mostBytes() {
        String most = "tongue;" + " ".repeat(492) + "\n";
        well(most, 1);
        well(" ".repeat(493) + "tongue;", 1);
        faulty(" ".repeat(494) + "tongue", 1, 500);
        faulty(" ".repeat(499) + "?", 1, 499);
        faulty("\n".repeat(500), 1, 500);
        faulty("tongue;".repeat(71) + "ton", 3, 49);
        faulty("tongue;word plain " + "1".repeat(482), 1, 18);
        faulty("t".repeat(500), 1, 0);
        DayTongues x = new DayTongues();
        Check.feed(x, most);
        Check.due("byte 501", x.feed(';', 1), Check.FULL);
        Check.due("the port without it", x.port(), 1);
    }

    /** Each beginning of a text, each text with a byte less or another one: as the Model reads it. */
    private static void cutAndChanged() {
        String[] texts = {"tongue;word plain 1;word double 2 3;tongue;word oath 4 5 6;word lent 8;person 1;person 3;",
            " tongue ;\nword count 255 ; word oath 7 ;tongue; tongue;person 0;person 7 ;"};
        char[] others = {' ', ';', '1', '0', 'a', 'w', ':', '\n', '\t'};
        for (String text : texts) {
            for (int i = 0; i < text.length(); i++) {
                asModel(text.substring(0, i));
                asModel(text.substring(i));
                asModel(text.substring(0, i) + text.substring(i + 1));
                for (char other : others) {
                    asModel(text.substring(0, i) + other + text.substring(i + 1));
                    asModel(text.substring(0, i) + other + text.substring(i));
                }
            }
        }
    }

    private static void asModel(String text) {
        DayTongues x = new DayTongues();
        Model model = new Model();
        for (int i = 0; i < text.length(); i++) {
            Check.due("feed", x.feed(text.charAt(i), 1), model.feed(text.charAt(i), 1));
        }
        Check.due("port() of " + text, x.port(), model.port());
        Check.due("fault() of " + text, x.fault(), model.fault());
        for (int what = 1; what <= 3; what++) {
            Check.due("count(" + what + ") of " + text, x.count(what), model.count(what));
        }
        for (int tongue = 0; tongue <= x.count(1); tongue++) {
            for (int word = 0; word <= 2; word++) {
                for (int what = 0; what <= 3; what++) {
                    Check.due("word of " + text, x.word(tongue, word, what), model.word(tongue, word, what));
                }
                Check.due("kind of " + text, x.kind(tongue, word), model.kind(tongue, word));
            }
            Check.due("knows of " + text, x.knows(tongue), model.knows(tongue));
        }
    }

    /** A port that is read stands in place of the one before, at year 0; images, rows, trace, status stay. */
    private static void inPlace() {
        DayTongues x = Check.port("tongue;word plain 1;word plain 2;tongue;word oath 1 2 4;person 3;");
        Check.lay(x, 2, 1, 1, 0);
        Check.due("image(0)", x.image(0), 1);
        Check.due("years", x.drift(5, 9), 5);
        Check.due("image(1)", x.image(1), 1);
        Check.due("ask", x.ask(1, 0, 1), -(x.word(1, 0, 1) & x.word(1, 0, 2) & x.word(1, 0, 3)));
        Check.mark(x);
        Check.due("a port", Check.read(x, "tongue;word count 16;word double 3 5;"), 1);
        Check.due("year 0", x.count(4), 0);
        Check.due("TONGUES", x.count(1), 1);
        Check.due("WORDS", x.count(2), 2);
        Check.due("PEOPLE", x.count(3), 0);
        Check.due("the status stays", x.status(), 3);
        Check.due("the TRACE stays", x.trace(0), 23);
        Check.due("fault() stays", x.fault(), 0);
        Check.due("the ROW stays", x.means(0, 2, 0, 2, 0), 19);
        Check.due("its LANE stays", x.set(2, 0, 70000), (short) 70000);
        Check.due("years from 0 on", x.drift(3, 9), 3);
        Check.due("image 1 stays", x.restore(1), 1);
        Check.due("its years", x.count(4), 5);
        Check.due("years from 5 on", x.drift(4, 9), 9);
        Check.due("image 0 stays", x.restore(0), 1);
        Check.due("its years", x.count(4), 0);
        Check.due("its TONGUES", x.count(1), 2);
        Check.due("its first WORD", x.word(0, 0, 1), 1);
        Check.due("its PEOPLE", x.knows(0), 3);
    }
}
