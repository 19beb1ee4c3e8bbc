/** Promises 23 to 28: kinds, asks and their trace, counts, the status. */
public final class AskTest {
    private static final String ALL = "tongue;word plain 9;word count 20;word lent 33;word double 12 6;word double 7 3 5;"
        + "word oath 6 14;tongue;word oath 200;";

    public static void main(String[] args) {
        kinds();
        taken();
        asks();
        asksAfterYears();
        asksRefused();
        counts();
        statusOfRows();
        statusOfSayings();
        statusStays();
        Check.end();
    }

    private static void kinds() {
        DayTongues x = new DayTongues();
        Check.due("no PORT", x.kind(0, 0), Check.BAD);
        Check.read(x, ALL);
        int[] due = {1, 2, 3, 4, 4, 5};
        for (int word = 0; word < due.length; word++) {
            Check.due("kind(0, " + word + ")", x.kind(0, word), due[word]);
        }
        Check.due("kind(1, 0)", x.kind(1, 0), 5);
        int[][] bad = {{0, 6}, {0, -1}, {1, 1}, {2, 0}, {-1, 0}, {7, 7}, {Integer.MAX_VALUE, Integer.MAX_VALUE}};
        for (int[] call : bad) {
            Check.due("kind of " + call[0] + " " + call[1], x.kind(call[0], call[1]), Check.BAD);
            Check.due("as of " + call[0] + " " + call[1], x.as(call[0], call[1], 0), Check.BAD);
            Check.due("ask of " + call[0] + " " + call[1], x.ask(call[0], call[1], 0), Check.BAD);
        }
        x.drift(100, 3);
        Check.due("a KIND does not drift", x.kind(0, 2), 3);
    }

    private static void taken() {
        DayTongues x = Check.port(ALL);
        String[] kindsOf = {"01", "012", "0123", "04", "04", "045"};
        for (int word = 0; word < kindsOf.length; word++) {
            for (int kind = 0; kind <= 5; kind++) {
                boolean is = kindsOf[word].indexOf((char) ('0' + kind)) >= 0;
                Check.due("as(0, " + word + ", " + kind + ")", x.as(0, word, kind), is ? word : Check.KIND);
                Check.due("status() of it", x.status(), is ? 0 : 3);
            }
        }
        Check.due("as kind -1", x.as(0, 0, -1), Check.BAD);
        Check.due("as kind 6", x.as(0, 0, 6), Check.BAD);
        Check.due("as an oath", x.as(1, 0, 5), 0);
    }

    private static void ask(DayTongues x, int tongue, int word, int what, int answer, int... bodies) {
        String call = "ask(" + tongue + ", " + word + ", " + what + ")";
        Check.due(call, x.ask(tongue, word, what), answer);
        for (int i = 0; i < bodies.length; i++) {
            Check.due("trace(" + i + ") of " + call, x.trace(i), bodies[i]);
        }
        Check.due("trace's end of " + call, x.trace(bodies.length), Check.NONE);
        Check.due("trace(-1) of " + call, x.trace(-1), Check.NONE);
        Check.due("trace(16) of " + call, x.trace(16), Check.NONE);
        Check.due("trace far of " + call, x.trace(Integer.MAX_VALUE), Check.NONE);
    }

    private static void asks() {
        DayTongues x = Check.port(ALL);
        ask(x, 0, 0, 0, 10, 11, 10, 21, 20);
        ask(x, 0, 0, 1, 9, 21, 20);
        ask(x, 0, 1, 0, 1022, 11, 10, 22, 21, 20);
        ask(x, 0, 1, 1, 1021, 22, 21, 20);
        ask(x, 0, 2, 0, -2071, 12, 11, 10, 24, 22, 21, 20);
        ask(x, 0, 2, 1, 2070, 24, 22, 21, 20);
        ask(x, 0, 3, 0, 3, 13, 10, 23, 20);
        ask(x, 0, 3, 1, -1, 23, 20);
        ask(x, 0, 4, 0, 0, 13, 10, 23, 20);
        ask(x, 0, 4, 1, 3, 23, 20);
        ask(x, 0, 5, 0, 6, 14, 13, 10, 23, 20);
        ask(x, 0, 5, 1, -1, 23, 20);
        ask(x, 1, 0, 0, 402, 14, 13, 10, 23, 20);
        ask(x, 1, 0, 1, -200, 23, 20);
    }

    private static void asksAfterYears() {
        DayTongues x = Check.port("tongue;word plain 1;");
        for (int year = 1; year <= 20; year++) {
            x.drift(1, year * 40000);
            int reading = x.word(0, 0, 1);
            ask(x, 0, 0, 1, reading, 21, 20);
            ask(x, 0, 0, 0, reading + 1, 11, 10, 21, 20);
        }
        Check.read(x, "tongue;");
        Check.due("the TRACE stays by a port", x.trace(1), 10);
    }

    private static void asksRefused() {
        DayTongues x = new DayTongues();
        Check.due("no PORT", x.ask(0, 0, 0), Check.BAD);
        Check.due("no TRACE", x.trace(0), Check.NONE);
        Check.read(x, ALL);
        ask(x, 0, 5, 0, 6, 14, 13, 10, 23, 20);
        Check.due("what 2", x.ask(0, 0, 2), Check.BAD);
        Check.due("what -1", x.ask(0, 0, -1), Check.BAD);
        Check.due("no WORD", x.ask(0, 6, 0), Check.BAD);
        Check.due("no TONGUE", x.ask(2, 0, 0), Check.BAD);
        int[] stays = {14, 13, 10, 23, 20, Check.NONE};
        for (int i = 0; i < stays.length; i++) {
            Check.due("the TRACE stays", x.trace(i), stays[i]);
        }
    }

    private static void counts() {
        DayTongues x = Check.port(ALL + "person 1;person 3;person 2;");
        x.row(0, 0, 3);
        x.row(4, 1, 0);
        x.drift(7, 7);
        Check.feed(x, "tongue");
        int[] due = {2, 2, 7, 3, 7, 6, Check.BAD};
        for (int what = 0; what < due.length; what++) {
            Check.due("count(" + what + ")", x.count(what), due[what]);
        }
        Check.due("count(-1)", x.count(-1), Check.BAD);
        x.drop(0);
        Check.due("count(0) after a drop", x.count(0), 1);
    }

    private static void statusOfRows() {
        DayTongues x = new DayTongues();
        status(x, "set", x.set(0, 0, 0), Check.NULL, 1);
        status(x, "row", x.row(0, 0, 2), 2, 0);
        status(x, "row", x.row(0, 0, -1), Check.SIZE, 4);
        status(x, "set", x.set(0, 1, 0), 0, 0);
        status(x, "set", x.set(0, 2, 0), Check.PLACE, 2);
        status(x, "copy", x.copy(0, 0, 0, 1, 1), 1, 0);
        status(x, "row", x.row(1, 1, 2), 2, 0);
        status(x, "copy", x.copy(0, 0, 1, 1, 1), Check.STORE, 5);
        status(x, "drop", x.drop(1), 2, 0);
        status(x, "drop", x.drop(1), Check.NULL, 1);
        status(x, "copy", x.copy(0, 0, 0, 2, 1), Check.PLACE, 2);
    }

    private static void status(DayTongues x, String call, int got, int want, int status) {
        Check.due(call, got, want);
        Check.due("status() of " + call + " that answered " + got, x.status(), status);
    }

    private static void statusOfSayings() {
        DayTongues x = Check.port(ALL);
        status(x, "means", x.means(0, 0, 0, 0, 0), Check.NULL, 1);
        Check.lay(x, 0, 0, 0, 0, 5);
        status(x, "means", x.means(0, 0, 1, 3, 0), Check.PLACE, 2);
        status(x, "means", x.means(0, 0, 0, 1, 0), 9, 0);
        status(x, "bargain", x.bargain(1, 1, 0), Check.NULL, 1);
        status(x, "bargain", x.bargain(0, 1, 0), 0, 0);
        status(x, "bargain", x.bargain(0, 2, 0), Check.PLACE, 2);
        status(x, "means, of none so many", x.means(0, 0, 0, 1, 1), Check.NONE, 0);
        status(x, "dated", x.dated(1, 0, 0, 0), Check.NULL, 1);
        status(x, "dated", x.dated(0, 0, 1, 9), 1, 0);
        status(x, "dated", x.dated(0, 3, 1, 9), Check.PLACE, 2);
        status(x, "bargain, of none so many", x.bargain(0, 1, 1), Check.NONE, 0);
    }

    /** What is BAD, STATE or FULL, and what is no call with a ROW, leaves the status. */
    private static void statusStays() {
        DayTongues y = new DayTongues();
        y.drop(0);
        y.means(0, 0, 0, 0, 0);
        y.bargain(0, 1, 0);
        y.dated(0, 0, 0, 0);
        y.port();
        Check.due("status() after STATE", y.status(), 1);
        DayTongues x = Check.port(ALL);
        Check.lay(x, 0, 0, 0, 7, -1);
        Check.mark(x);
        x.row(8, 0, 0);
        x.row(0, 3, -1);
        x.set(8, 0, 0);
        x.copy(0, 0, 8, 0, 0);
        x.drop(-1);
        x.means(0, 0, 0, 7, 0);
        x.means(0, 0, 0, 2, 0);
        x.bargain(0, 0, 0);
        x.bargain(0, 1, 0);
        x.dated(0, 0, 0, 256);
        x.dated(0, 1, 2, 0);
        x.as(0, 0, 6);
        x.as(0, 7, 0);
        Check.due("status() after BAD", x.status(), 3);
        x.feed(0L, 9);
        x.feed(0x20L, 1);
        x.drift(1, 1);
        x.word(0, 0, 0);
        x.words(0);
        x.knows(0);
        x.shortest(0, 0, 0, 0);
        x.sayable(0, 0);
        x.understands(0, 0, 0);
        x.week(0);
        x.letIn(1);
        x.image(0);
        x.restore(0);
        x.kind(0, 0);
        x.ask(0, 0, 0);
        x.trace(0);
        x.count(0);
        x.fault();
        x.port();
        Check.due("status() after calls without a ROW", x.status(), 3);
    }
}
