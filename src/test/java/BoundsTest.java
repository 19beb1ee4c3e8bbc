import java.util.function.Supplier;

/** Each bound that the document tells: the number just inside it, just outside it, and the farthest outside. */
public final class BoundsTest {
    private static final String PORT = "tongue;word plain 1;word double 2 4;word oath 1 2 4;tongue;word plain 8;word lent 16;"
        + "person 1;person 3;person 0;";
    private static final String MOST = "tongue;".repeat(7) + "word oath 1 2 4;" + "word plain 9;".repeat(7)
        + "person 127;".repeat(8);

    private interface Call {
        int on(DayTongues x, int v);
    }

    public static void main(String[] args) {
        rows();
        places();
        lanes();
        tapes();
        ports();
        sayings();
        itemsOfSayings();
        itemsOfBargains();
        people();
        letters();
        images();
        asked();
        Check.end();
    }

    /** A port, rows 0 (words) and 7 (a bargain), and finding 3 in status(). */
    private static DayTongues made() {
        DayTongues x = Check.port(PORT);
        Check.lay(x, 0, 2, 0, 1, 1, 0, 1, 0, 1, 1);
        Check.lay(x, 7, 2, 0, 1, 0, 0, 1, 1, 1, 1, 1, 3, 1, 1, 4, 0);
        Check.mark(x);
        return x;
    }

    private static DayTongues most() {
        DayTongues x = Check.port(MOST);
        Check.due("a mark in status()", x.drop(5), Check.NULL);
        return x;
    }

    /** What is outside answers `below`, `above`; the status tells a finding of these, and stays at what it was by BAD. */
    private static void bounds(String what, Supplier<DayTongues> made, Call call, int least, int dueLeast, int most,
            int dueMost, int below, int above) {
        Check.due(what + " just inside, " + least, call.on(made.get(), least), dueLeast);
        Check.due(what + " just inside, " + most, call.on(made.get(), most), dueMost);
        if (least > Integer.MIN_VALUE) {
            outside(what, made.get(), call, least - 1, below);
            outside(what, made.get(), call, Integer.MIN_VALUE, below);
        }
        if (most < Integer.MAX_VALUE) {
            outside(what, made.get(), call, most + 1, above);
            outside(what, made.get(), call, Integer.MAX_VALUE, above);
        }
    }

    private static void outside(String what, DayTongues x, Call call, int v, int due) {
        int before = x.status();
        Check.due(what + " outside, " + v, call.on(x, v), due);
        boolean found = due <= Check.NULL && due >= Check.STORE;
        // NONE is no refusal: a call with a ROW that answers it had no finding.
        if (due != Check.NONE) {
            Check.due("status() of " + what + " outside, " + v, x.status(), found ? -1000010 - due : before);
        }
    }

    private static void bad(String what, Call call, int least, int dueLeast, int most, int dueMost) {
        bounds(what, BoundsTest::made, call, least, dueLeast, most, dueMost, Check.BAD, Check.BAD);
    }

    private static void badOfMost(String what, Call call, int least, int dueLeast, int most, int dueMost) {
        bounds(what, BoundsTest::most, call, least, dueLeast, most, dueMost, Check.BAD, Check.BAD);
    }

    private static void place(String what, Call call, int least, int dueLeast, int most, int dueMost) {
        bounds(what, BoundsTest::made, call, least, dueLeast, most, dueMost, Check.PLACE, Check.PLACE);
    }

    private static void rows() {
        bad("row's ROW", (x, v) -> x.row(v, 1, 3), 0, 3, 7, 3);
        bad("row's LANE", (x, v) -> x.row(1, v, 3), 0, 3, 2, 3);
        bounds("row's n", BoundsTest::made, (x, v) -> x.row(1, 0, v), 0, 0, 40, 40, Check.SIZE, Check.BAD);
        bad("set's ROW", (x, v) -> x.set(v, 0, 5), 0, 5, 7, 5);
        bad("copy's first ROW", (x, v) -> x.copy(v, 0, 0, 0, 2), 0, 2, 7, 2);
        bad("copy's second ROW", (x, v) -> x.copy(0, 0, v, 0, 2), 0, 2, 7, 2);
        bad("drop's ROW", (x, v) -> x.drop(v), 0, 8, 7, 14);
        for (int row = 1; row < 7; row++) {
            DayTongues x = made();
            Check.due("drop of ROW " + row + " that is missing", x.drop(row), Check.NULL);
            Check.due("ROW " + row, x.row(row, 0, row), row);
            Check.due("count(0)", x.count(0), 3);
            Check.due("drop of ROW " + row, x.drop(row), row);
            Check.due("count(0)", x.count(0), 2);
        }
    }

    private static void places() {
        place("set's i", (x, v) -> x.set(0, v, 5), 0, 5, 7, 5);
        for (int n = 0; n <= 40; n++) {
            DayTongues x = new DayTongues();
            Check.due("row of " + n, x.row(3, 0, n), n);
            Check.due("its last ITEM", x.set(3, n - 1, 9), n == 0 ? Check.PLACE : 9);
            Check.due("behind its last ITEM", x.set(3, n, 9), Check.PLACE);
            Check.due("copy of all", x.copy(3, 0, 3, 0, n), n);
            Check.due("copy of one more", x.copy(3, 0, 3, 0, n + 1), Check.PLACE);
            Check.due("how many it had", x.drop(3), n);
        }
        place("copy's i, of 3", (x, v) -> x.copy(0, v, 7, 0, 3), 0, 3, 5, 3);
        place("copy's j, of 3", (x, v) -> x.copy(0, 0, 7, v, 3), 0, 3, 11, 3);
        place("copy's n, up to the first end", (x, v) -> x.copy(0, 0, 7, 0, v), 0, 0, 8, 8);
        place("copy's n, up to the second end", (x, v) -> x.copy(7, 0, 0, 0, v), 0, 0, 8, 8);
        place("copy's i, of none", (x, v) -> x.copy(0, v, 7, 0, 0), 0, 0, 8, 0);
        place("copy's j, of none", (x, v) -> x.copy(0, 0, 7, v, 0), 0, 0, 14, 0);
        place("means' i, of 3", (x, v) -> x.means(0, 0, v, 3, -1), 0, 3, 5, 3);
        place("means' i, of none", (x, v) -> x.means(0, 0, v, 0, 0), 0, 0, 8, 0);
        place("dated's i, of 3", (x, v) -> x.dated(0, v, 3, 7), 0, 1, 5, 1);
        place("dated's i, of none", (x, v) -> x.dated(0, v, 0, 0), 0, 3, 8, 3);
    }

    /** An ITEM keeps the lowest bits of its LANE, read with their sign. */
    private static void lanes() {
        int[][] kept = {{0, 127, 127}, {0, 128, -128}, {0, 255, -1}, {0, 256, 0}, {0, -128, -128}, {0, -129, 127},
            {0, Integer.MIN_VALUE, 0}, {0, Integer.MAX_VALUE, -1}, {1, 32767, 32767}, {1, 32768, -32768}, {1, 65535, -1},
            {1, 65536, 0}, {1, -32768, -32768}, {1, -32769, 32767}, {1, Integer.MIN_VALUE, 0}, {1, Integer.MAX_VALUE, -1},
            {2, 65536, 65536}, {2, Integer.MIN_VALUE, Integer.MIN_VALUE}, {2, Integer.MAX_VALUE, Integer.MAX_VALUE}};
        for (int[] one : kept) {
            DayTongues x = new DayTongues();
            Check.due("row", x.row(0, one[0], 1), 1);
            Check.due("LANE " + one[0] + " of " + one[1], x.set(0, 0, one[1]), one[2]);
        }
    }

    private static void tapes() {
        bad("feed's n", (x, v) -> x.feed(0x2020202020202020L, v), 1, 1, 8, 8);
        for (int n = 1; n <= 8; n++) {
            DayTongues x = new DayTongues();
            Check.feed(x, " ".repeat(500 - n));
            Check.due("one too many than " + n, x.feed(0L, n + 1), n == 8 ? Check.BAD : Check.FULL);
            Check.due("none came", x.count(5), 500 - n);
            Check.due("the last " + n, x.feed(0L, n), 500);
            Check.due("one more", x.feed(0L, 1), Check.FULL);
            Check.due("n 0 of a full one", x.feed(0L, 0), Check.BAD);
            Check.due("n 9 of a full one", x.feed(0L, 9), Check.BAD);
            Check.due("a full one", x.count(5), 500);
            Check.due("none of it stands", x.port(), -1000100 - 500 + n);
            Check.due("empty then", x.count(5), 0);
            Check.due("from its beginning on", x.feed(0L, 1), 1);
        }
    }

    private static void ports() {
        bad("drift's n", (x, v) -> x.drift(v, 7), 1, 1, 100, 100);
        bad("drift's seed", (x, v) -> x.drift(1, v), 1, 1, 999999, 1);
        bad("word's TONGUE", (x, v) -> x.word(v, 0, 0), 0, 1, 1, 1);
        bad("word's WORD", (x, v) -> x.word(0, v, 0), 0, 1, 2, 3);
        bad("word's what", (x, v) -> x.word(0, 2, v), 0, 3, 3, 4);
        bad("word's what, of fewer", (x, v) -> x.word(0, 0, v), 0, 1, 3, Check.NONE);
        bad("words' TONGUE", (x, v) -> x.words(v), 0, 3, 1, 2);
        bad("knows' PERSON", (x, v) -> x.knows(v), 0, 1, 2, 0);
        badOfMost("word's TONGUE", (x, v) -> v < 6 ? x.words(v) : x.word(v, 0, 0), 0, 0, 6, 3);
        badOfMost("word's WORD", (x, v) -> x.word(6, v, 1), 0, 1, 7, 9);
        badOfMost("words' TONGUE", (x, v) -> x.words(v), 0, 0, 6, 8);
        badOfMost("knows' PERSON", (x, v) -> x.knows(v), 0, 127, 7, 127);
        Check.due("a TONGUE without WORDS", most().word(0, 0, 0), Check.BAD);
    }

    private static void sayings() {
        bad("means' day", (x, v) -> x.means(v, 0, 0, 1, 0), 0, 1, 1000000, 1);
        bad("means' ROW", (x, v) -> x.means(0, v, 0, 1, 0), 0, 1, 7, 1);
        bad("means' n", (x, v) -> x.means(0, 0, 0, v, -1), 0, 1, 6, 3);
        bounds("means' k", BoundsTest::made, (x, v) -> x.means(0, 0, 0, 2, v), -1, 2, 1, 5, Check.BAD, Check.NONE);
        bad("shortest's day", (x, v) -> x.shortest(v, 1, 0, -1), 0, 1, 1000000, 1);
        bad("shortest's meaning", (x, v) -> x.shortest(0, v, 0, -1), 0, 0, 255, Check.NONE);
        bad("shortest's what", (x, v) -> x.shortest(0, 2, v, -1), 0, 1, 1, Check.NONE);
        bounds("shortest's k", BoundsTest::made, (x, v) -> x.shortest(0, 6, 0, v), -1, 2, 1, 1, Check.BAD, Check.NONE);
        bad("sayable's day", (x, v) -> x.sayable(v, 0), 0, 8, 1000000, 8);
        bad("sayable's what", (x, v) -> x.sayable(0, v), 0, 8, 1, 2);
        bad("bargain's ROW", (x, v) -> x.bargain(v, 1, 0), 0, 2, 7, 1);
        bad("bargain's m", (x, v) -> x.bargain(7, v, -1), 1, 1, 5, 0);
        bounds("bargain's k", BoundsTest::made, (x, v) -> x.bargain(0, 1, v), -1, 2, 1, 4, Check.BAD, Check.NONE);
        Check.due("the TONGUE of day 1", made().means(1, 0, 0, 1, 0), 8);
        Check.due("the TONGUE of day 2", made().means(2, 0, 0, 1, 0), 1);
        Check.due("the TONGUE of day 999999", made().means(999999, 0, 0, 1, 0), 8);
    }

    /** A saying of the last WORD and of one more, on the days of both TONGUES. */
    private static void itemsOfSayings() {
        for (int lane = 0; lane <= 2; lane++) {
            DayTongues x = Check.port(PORT);
            Check.lay(x, 0, lane, 0, 2, 3, -1, 1);
            Check.due("the first WORD", x.means(0, 0, 0, 1, 0), 1);
            Check.due("the last WORD", x.means(0, 0, 1, 1, -1), 3);
            Check.due("one WORD too far", x.means(0, 0, 2, 1, -1), Check.BAD);
            Check.due("one WORD too far, behind others", x.means(0, 0, 0, 3, -1), Check.BAD);
            Check.due("WORD -1", x.means(0, 0, 3, 1, -1), Check.BAD);
            Check.due("the last WORD of the other TONGUE", x.means(1, 0, 4, 1, 0), 16);
            Check.due("one WORD too far there", x.means(1, 0, 1, 1, 0), Check.BAD);
        }
        DayTongues y = Check.port(MOST);
        Check.lay(y, 0, 2, 7, 8, Integer.MAX_VALUE, Integer.MIN_VALUE, 0);
        Check.due("WORD 7", y.means(6, 0, 0, 1, 0), 9);
        Check.due("WORD 8", y.means(6, 0, 1, 1, 0), Check.BAD);
        Check.due("WORD at the far end", y.means(6, 0, 2, 1, 0), Check.BAD);
        Check.due("WORD at the far beginning", y.means(6, 0, 3, 1, 0), Check.BAD);
        Check.due("any WORD of a TONGUE without", y.means(5, 0, 4, 1, 0), Check.BAD);
        Check.due("no WORD of a TONGUE without", y.means(5, 0, 4, 0, 0), 0);
    }

    private static void bargain(int due, int m, int... items) {
        StringBuilder told = new StringBuilder("bargain of " + m + ":");
        for (int item : items) {
            told.append(' ').append(item);
        }
        DayTongues x = Check.port(PORT);
        Check.lay(x, 2, 2, items);
        Check.mark(x);
        Check.due(told.toString(), x.bargain(2, m, -1), due);
        Check.due("status() of " + told, x.status(), due == Check.BAD ? 3 : due == Check.PLACE ? 2 : 0);
    }

    private static void itemsOfBargains() {
        bargain(1, 1, 0, 0);
        bargain(Check.BAD, 1, -1, 0);
        bargain(Check.BAD, 1, Integer.MIN_VALUE, 0);
        bargain(1, 1, 1000000, 0);
        bargain(1, 1, 1000001, 1, 1);
        bargain(Check.BAD, 1, 1000001, 1, 2);
        bargain(1, 1, Integer.MAX_VALUE, 1, 1);
        bargain(Check.BAD, 1, Integer.MAX_VALUE, 1, 2);
        bargain(3, 1, 0, 6, 0, 1, 1, 1, 1, 1);
        bargain(Check.BAD, 1, 0, 7, 0, 1, 1, 1, 1, 1, 1);
        bargain(Check.BAD, 1, 0, -1);
        bargain(3, 1, 0, 1, 2);
        bargain(Check.BAD, 1, 0, 1, 3);
        bargain(Check.BAD, 1, 0, 1, -1);
        // As they come: what is wrong first is told, be it an ITEM that is not there.
        bargain(Check.PLACE, 1);
        bargain(Check.PLACE, 1, 0);
        bargain(Check.BAD, 1, -1);
        bargain(Check.PLACE, 1, 0, 2, 0);
        bargain(Check.BAD, 1, 0, 2, 3);
        bargain(Check.PLACE, 1, 0, 6, 0, 0, 0, 0, 0);
        bargain(Check.BAD, 1, 0, 6, 0, 0, 0, 0, 9);
        bargain(Check.PLACE, 2, 0, 0);
        bargain(Check.PLACE, 2, 0, 0, 0);
        bargain(Check.BAD, 2, 0, 0, -1);
        bargain(Check.BAD, 2, 0, 0, 0, 7);
        bargain(Check.BAD, 2, 0, 1, 3, -1, 9);
        // What is behind the SAYINGS told does not matter.
        bargain(1, 1, 0, 0, -1, -1);
        bargain(1, 5, 0, 0, 1, 0, 2, 0, 3, 0, 4, 0);
        bargain(Check.PLACE, 5, 0, 0, 1, 0, 2, 0, 3, 0, 4);
    }

    private static void people() {
        bad("understands' day", (x, v) -> x.understands(v, 0, 0), 0, 0, 1000000, 0);
        bad("understands' hearer", (x, v) -> x.understands(0, v, 255), 0, 0, 2, Check.NONE);
        bad("understands' set", (x, v) -> x.understands(1, 0, v), 0, Check.NONE, 255, 1);
        badOfMost("understands' hearer", (x, v) -> x.understands(6, v, 0), 0, 0, 7, 0);
        bad("week's what", (x, v) -> x.week(v), 0, Check.NONE, 1, Check.NONE);
        badOfMost("week's what", (x, v) -> x.week(v), 0, 0, 1, 0);
        bad("letIn's meaning", (x, v) -> x.letIn(v), 1, 1, 255, 0);
        String full = "tongue;" + "word plain 1;".repeat(8);
        Check.due("7 WORDS", Check.port("tongue;" + "word plain 1;".repeat(7)).letIn(2), 0);
        Check.due("8 WORDS", Check.port(full).letIn(2), Check.NONE);
        Check.due("8 WORDS, then 7", Check.port(full + "tongue;" + "word plain 1;".repeat(7)).letIn(1), 1);
        Check.due("8 WORDS, then none", Check.port(full + "tongue;").letIn(1), 1);
        Check.due("none, then 8 WORDS", Check.port("tongue;" + full).letIn(1), 0);
    }

    private static void letters() {
        bad("dated's ROW", (x, v) -> x.dated(v, 0, 1, 1), 0, 1, 7, 1);
        bad("dated's n", (x, v) -> x.dated(0, 0, v, 7), 0, 0, 6, 1);
        bad("dated's meaning", (x, v) -> x.dated(0, 0, 0, v), 0, 3, 255, 0);
        DayTongues x = Check.port(MOST);
        Check.lay(x, 0, 2, 0, 7, 8, -1, Integer.MAX_VALUE, Integer.MIN_VALUE);
        Check.due("ITEM 0", x.dated(0, 0, 1, 4), 64);
        Check.due("ITEM 7", x.dated(0, 1, 1, 9), 64);
        for (int i = 2; i <= 5; i++) {
            Check.due("ITEM outside, place " + i, x.dated(0, i, 1, 9), Check.BAD);
        }
        Check.due("ITEM 8 behind others", x.dated(0, 0, 3, 9), Check.BAD);
        Check.due("ITEM 8 behind those told", x.dated(0, 0, 2, 13), 64);
        Check.due("ITEM 7 in TONGUES with fewer", made().dated(0, 1, 1, 4), 1);
    }

    private static void images() {
        bad("image's k", (x, v) -> x.image(v), 0, 1, 1, 1);
        bad("restore's k", (x, v) -> {
            Check.due("image", x.image(0) + x.image(1), 2);
            return x.restore(v);
        }, 0, 1, 1, 1);
    }

    private static void asked() {
        bad("kind's TONGUE", (x, v) -> x.kind(v, 0), 0, 1, 1, 1);
        bad("kind's WORD", (x, v) -> x.kind(0, v), 0, 1, 2, 5);
        badOfMost("kind's WORD", (x, v) -> x.kind(6, v), 0, 5, 7, 1);
        bad("as' TONGUE", (x, v) -> x.as(v, 0, 0), 0, 0, 1, 0);
        bad("as' WORD", (x, v) -> x.as(0, v, 0), 0, 0, 2, 2);
        bad("as' KIND", (x, v) -> x.as(0, 2, v), 0, 2, 5, 2);
        badOfMost("as' WORD", (x, v) -> x.as(6, v, 0), 0, 0, 7, 7);
        bad("ask's TONGUE", (x, v) -> x.ask(v, 0, 1), 0, 1, 1, 8);
        bad("ask's WORD", (x, v) -> x.ask(0, v, 1), 0, 1, 2, 2);
        bad("ask's what", (x, v) -> x.ask(0, 0, v), 0, 2, 1, 1);
        badOfMost("ask's WORD", (x, v) -> x.ask(6, v, 1), 0, 0, 7, 16);
        bounds("trace's i", () -> {
            DayTongues x = made();
            Check.due("ask", x.ask(1, 1, 0), -(1 + 2 * (1 + 16 + 1000)));
            return x;
        }, (x, v) -> x.trace(v), 0, 12, 6, 20, Check.NONE, Check.NONE);
        bad("count's what", (x, v) -> x.count(v), 0, 2, 5, 0);
    }
}
