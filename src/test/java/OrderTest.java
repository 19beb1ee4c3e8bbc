import java.util.ArrayList;
import java.util.List;

/** What is refused: which refusal is the first that fits, and that it changes nothing but status(). */
public final class OrderTest {
    private static final String PORT = Check.EIGHT.replace("person 1;", "tongue;word lent 6;word oath 9 12;person 2;person 3;");

    private interface Call {
        int on(DayTongues x);
    }

    public static void main(String[] args) {
        withoutPort();
        ofRows();
        ofPorts();
        ofSayings();
        ofPeople();
        ofAsks();
        faultsAndFullTapes();
        Check.end();
    }

    /** Rows of all lanes, a port, images, a trace, bytes on the tape, a fault, finding 3 in status(). */
    private static DayTongues made() {
        DayTongues x = new DayTongues();
        Check.due("a fault", Check.read(x, "tongue;word plain 0;"), -1000118);
        Check.due("a port", Check.read(x, "tongue;word double 3 5;person 1;"), 1);
        Check.due("years", x.drift(2, 3), 2);
        Check.due("image(1)", x.image(1), 1);
        Check.due("a port", Check.read(x, PORT), 2);
        Check.lay(x, 0, 0, 3, 1, 4);
        Check.lay(x, 1, 1, 1, 5);
        Check.lay(x, 2, 2, 6, 2, 6, 5);
        Check.lay(x, 3, 0);
        Check.due("an ask", x.ask(1, 0, 0), -(1 + 2 * 1006));
        Check.due("bytes", x.feed(0x746F6E677565L, 6), 6);
        Check.mark(x);
        return x;
    }

    /** All that can be seen of an object, but for its status. */
    private static List<Integer> all(DayTongues x) {
        List<Integer> seen = new ArrayList<>();
        for (int what = 0; what <= 5; what++) {
            seen.add(x.count(what));
        }
        seen.add(x.fault());
        for (int i = 0; i <= 8; i++) {
            seen.add(x.trace(i));
        }
        for (int row = 0; row <= 4; row++) {
            for (int i = 0; i <= 5; i++) {
                seen.add(x.means(0, row, i, 1, 0));
            }
            seen.add(x.set(row, 0, 70000));
        }
        port(x, seen);
        seen.add(x.restore(0));
        seen.add(x.restore(1));
        port(x, seen);
        seen.add(x.port());
        return seen;
    }

    private static void port(DayTongues x, List<Integer> seen) {
        for (int tongue = 0; tongue <= 2; tongue++) {
            seen.add(x.words(tongue));
            for (int word = 0; word <= 8; word++) {
                seen.add(x.kind(tongue, word));
                for (int what = 1; what <= 3 && x.kind(tongue, word) > 0; what++) {
                    seen.add(x.word(tongue, word, what));
                }
            }
        }
        for (int person = 0; person <= 3; person++) {
            seen.add(x.knows(person));
        }
        seen.add(x.count(4));
    }

    private static void refused(String what, Call call, int due) {
        DayTongues x = made();
        Check.due(what, call.on(x), due);
        boolean found = due <= Check.NULL && due >= Check.STORE;
        Check.due("status() of " + what, x.status(), found ? -1000010 - due : 3);
        Check.due("nothing else is changed by " + what, all(x).equals(all(made())) ? 1 : 0, 1);
    }

    private static void none(String what, Call call, int due) {
        DayTongues x = new DayTongues();
        Check.due("a mark in status()", x.row(0, 0, -1), Check.SIZE);
        Check.due("without a PORT: " + what, call.on(x), due);
        Check.due("status() of " + what, x.status(), 4);
        Check.due("count(1)", x.count(1), 0);
    }

    /** STATE is ahead of BAD where the document says so; else BAD is ahead of STATE. */
    private static void withoutPort() {
        none("drift", x -> x.drift(1, 1), Check.STATE);
        none("drift of n 0", x -> x.drift(0, 1), Check.STATE);
        none("drift of seed 0", x -> x.drift(1, 0), Check.STATE);
        none("means", x -> x.means(0, 0, 0, 0, -1), Check.STATE);
        none("means of day -1", x -> x.means(-1, 0, 0, 0, -1), Check.STATE);
        none("means of ROW 8", x -> x.means(0, 8, 0, 0, -1), Check.STATE);
        none("means of n 7", x -> x.means(0, 0, 0, 7, -1), Check.STATE);
        none("means of k -2", x -> x.means(0, 0, 0, 0, -2), Check.STATE);
        none("shortest", x -> x.shortest(0, 0, 0, -1), Check.STATE);
        none("shortest of day -1", x -> x.shortest(-1, 0, 0, -1), Check.STATE);
        none("shortest of meaning 256", x -> x.shortest(0, 256, 0, -1), Check.STATE);
        none("shortest of what 2", x -> x.shortest(0, 0, 2, -1), Check.STATE);
        none("shortest of k -2", x -> x.shortest(0, 0, 0, -2), Check.STATE);
        none("sayable", x -> x.sayable(0, 0), Check.STATE);
        none("sayable of day -1", x -> x.sayable(-1, 0), Check.STATE);
        none("sayable of what 2", x -> x.sayable(0, 2), Check.STATE);
        none("bargain", x -> x.bargain(0, 1, -1), Check.STATE);
        none("bargain of ROW -1", x -> x.bargain(-1, 1, -1), Check.STATE);
        none("bargain of m 0", x -> x.bargain(0, 0, -1), Check.STATE);
        none("bargain of k -2", x -> x.bargain(0, 1, -2), Check.STATE);
        none("week", x -> x.week(0), Check.STATE);
        none("week of what 2", x -> x.week(2), Check.STATE);
        none("letIn", x -> x.letIn(1), Check.STATE);
        none("letIn of 0", x -> x.letIn(0), Check.STATE);
        none("dated", x -> x.dated(0, 0, 0, 0), Check.STATE);
        none("dated of ROW 8", x -> x.dated(8, 0, 0, 0), Check.STATE);
        none("dated of n -1", x -> x.dated(0, 0, -1, 0), Check.STATE);
        none("dated of meaning 256", x -> x.dated(0, 0, 0, 256), Check.STATE);
        none("image", x -> x.image(0), Check.STATE);
        none("image of k 2", x -> x.image(2), Check.BAD);
        none("image of k -1", x -> x.image(-1), Check.BAD);
        none("restore", x -> x.restore(1), Check.STATE);
        none("restore of k 2", x -> x.restore(2), Check.BAD);
        none("restore of k -1", x -> x.restore(-1), Check.BAD);
        none("understands", x -> x.understands(0, 0, 0), Check.BAD);
        none("word", x -> x.word(0, 0, 0), Check.BAD);
        none("words", x -> x.words(0), Check.BAD);
        none("knows", x -> x.knows(0), Check.BAD);
        none("kind", x -> x.kind(0, 0), Check.BAD);
        none("as", x -> x.as(0, 0, 0), Check.BAD);
        none("ask", x -> x.ask(0, 0, 0), Check.BAD);
        none("trace", x -> x.trace(0), Check.NONE);
        none("feed", x -> x.feed(0L, 9), Check.BAD);
        none("port", x -> x.port(), -1000100);
    }

    private static void ofRows() {
        refused("row of ROW 8, n -1", x -> x.row(8, 0, -1), Check.BAD);
        refused("row of LANE 3, n -1", x -> x.row(0, 3, -1), Check.BAD);
        refused("row of LANE -1", x -> x.row(0, -1, 1), Check.BAD);
        refused("row of n 41", x -> x.row(0, 0, 41), Check.BAD);
        refused("row of n -1, in place of one", x -> x.row(2, 0, -1), Check.SIZE);
        refused("row of n -1, in place of none", x -> x.row(4, 0, -1), Check.SIZE);
        refused("set of ROW 8, place -1", x -> x.set(8, -1, 7), Check.BAD);
        refused("set of none, place -1", x -> x.set(4, -1, 7), Check.NULL);
        refused("set of place 3", x -> x.set(0, 3, 7), Check.PLACE);
        refused("set of place 0 of no ITEMS", x -> x.set(3, 0, 7), Check.PLACE);
        refused("copy of ROW 8 to none", x -> x.copy(8, 0, 4, 0, 1), Check.BAD);
        refused("copy of none to ROW 8", x -> x.copy(4, 0, 8, 0, 1), Check.BAD);
        refused("copy of none", x -> x.copy(4, -1, 0, 0, 1), Check.NULL);
        refused("copy to none", x -> x.copy(0, 0, 4, 0, -1), Check.NULL);
        refused("copy of none to none", x -> x.copy(4, 0, 4, 0, 0), Check.NULL);
        refused("copy of bytes to shorts", x -> x.copy(0, 0, 1, 0, 1), Check.STORE);
        refused("copy of shorts to ints", x -> x.copy(1, 0, 2, 0, 0), Check.STORE);
        refused("copy of ints to bytes, n -1", x -> x.copy(2, 0, 0, 0, -1), Check.STORE);
        refused("copy of bytes to shorts, place 9", x -> x.copy(0, 9, 1, 0, 1), Check.STORE);
        refused("copy beyond the first end", x -> x.copy(3, 0, 0, 0, 1), Check.PLACE);
        refused("copy beyond the second end", x -> x.copy(0, 0, 3, 0, 1), Check.PLACE);
        refused("copy beyond an end in itself", x -> x.copy(2, 0, 2, 1, 4), Check.PLACE);
        refused("copy of n -1", x -> x.copy(2, 1, 2, 1, -1), Check.PLACE);
        refused("copy of i -1", x -> x.copy(2, -1, 2, 0, 2), Check.PLACE);
        refused("copy of j -1", x -> x.copy(2, 0, 2, -1, 2), Check.PLACE);
        refused("drop of ROW 8", x -> x.drop(8), Check.BAD);
        refused("drop of ROW -1", x -> x.drop(-1), Check.BAD);
        refused("drop of none", x -> x.drop(4), Check.NULL);
    }

    private static void ofPorts() {
        refused("feed of 0", x -> x.feed(7L, 0), Check.BAD);
        refused("feed of 9", x -> x.feed(7L, 9), Check.BAD);
        refused("drift of 0", x -> x.drift(0, 1), Check.BAD);
        refused("drift of 101", x -> x.drift(101, 1), Check.BAD);
        refused("drift of seed 0", x -> x.drift(1, 0), Check.BAD);
        refused("drift of seed 1000000", x -> x.drift(1, 1000000), Check.BAD);
        refused("word of TONGUE 2", x -> x.word(2, 0, 0), Check.BAD);
        refused("word of WORD 8", x -> x.word(0, 8, 0), Check.BAD);
        refused("word of what 4", x -> x.word(0, 0, 4), Check.BAD);
        refused("words of TONGUE 2", x -> x.words(2), Check.BAD);
        refused("knows of PERSON 3", x -> x.knows(3), Check.BAD);
    }

    private static void ofSayings() {
        refused("means of day -1, of none", x -> x.means(-1, 4, 0, 1, 0), Check.BAD);
        refused("means of ROW 8", x -> x.means(0, 8, -1, 1, 0), Check.BAD);
        refused("means of n 7, of none", x -> x.means(0, 4, 0, 7, 0), Check.BAD);
        refused("means of n -1, place -1", x -> x.means(0, 0, -1, -1, 0), Check.BAD);
        refused("means of k -2, of none", x -> x.means(0, 4, 0, 1, -2), Check.BAD);
        refused("means of k -2, place 9", x -> x.means(0, 0, 9, 1, -2), Check.BAD);
        refused("means of none, place -1", x -> x.means(0, 4, -1, 1, 0), Check.NULL);
        refused("means of none, n 0", x -> x.means(0, 4, 0, 0, 0), Check.NULL);
        refused("means of place 3", x -> x.means(0, 0, 3, 1, 0), Check.PLACE);
        refused("means beyond the end, ahead of no WORD", x -> x.means(1, 0, 0, 4, 0), Check.PLACE);
        refused("means of no WORD", x -> x.means(1, 0, 0, 1, 0), Check.BAD);
        refused("means of no WORD, k 9", x -> x.means(1, 0, 0, 1, 9), Check.BAD);
        refused("shortest of day 1000001", x -> x.shortest(1000001, 0, 0, 0), Check.BAD);
        refused("shortest of meaning -1", x -> x.shortest(0, -1, 0, 0), Check.BAD);
        refused("shortest of what -1", x -> x.shortest(0, 1, -1, 0), Check.BAD);
        refused("shortest of k -2", x -> x.shortest(1, 255, 1, -2), Check.BAD);
        refused("sayable of day -1", x -> x.sayable(-1, 0), Check.BAD);
        refused("sayable of what 2", x -> x.sayable(0, 2), Check.BAD);
        refused("bargain of m 6, of none", x -> x.bargain(4, 6, 0), Check.BAD);
        refused("bargain of m 0, of none", x -> x.bargain(4, 0, 0), Check.BAD);
        refused("bargain of k -2, of none", x -> x.bargain(4, 1, -2), Check.BAD);
        refused("bargain of ROW -1", x -> x.bargain(-1, 1, 0), Check.BAD);
        refused("bargain of none", x -> x.bargain(4, 1, 0), Check.NULL);
        refused("bargain of no ITEMS", x -> x.bargain(3, 1, 0), Check.PLACE);
        refused("bargain beyond the end", x -> x.bargain(1, 1, 0), Check.PLACE);
        refused("bargain beyond the end, behind a SAYING", x -> x.bargain(2, 2, 0), Check.PLACE);
        refused("bargain of no WORD", x -> x.bargain(0, 1, 0), Check.BAD);
        refused("dated of ROW 8, n 7", x -> x.dated(8, 0, 7, 0), Check.BAD);
        refused("dated of n 7, of none", x -> x.dated(4, 0, 7, 0), Check.BAD);
        refused("dated of meaning 256, of none", x -> x.dated(4, 0, 1, 256), Check.BAD);
        refused("dated of meaning -1, place -1", x -> x.dated(0, -1, 1, -1), Check.BAD);
        refused("dated of none, place -1", x -> x.dated(4, -1, 1, 0), Check.NULL);
        refused("dated of none, n 0", x -> x.dated(4, 0, 0, 0), Check.NULL);
        refused("dated of place 3", x -> x.dated(0, 3, 1, 0), Check.PLACE);
        refused("dated beyond the end, ahead of ITEM 8", x -> {
            Check.due("ITEM 8", x.set(0, 0, 8), 8);
            int answer = x.dated(0, 0, 4, 0);
            Check.due("then ITEM 8 is BAD", x.dated(0, 0, 3, 0), Check.BAD);
            Check.due("status() stays at PLACE", x.status(), 2);
            Check.due("ITEM 3", x.set(0, 0, 3), 3);
            Check.due("PLACE once more", x.dated(0, 0, 4, 0), Check.PLACE);
            return answer;
        }, Check.PLACE);
    }

    private static void ofPeople() {
        refused("understands of day -1", x -> x.understands(-1, 0, 0), Check.BAD);
        refused("understands of day 1000001", x -> x.understands(1000001, 0, 0), Check.BAD);
        refused("understands of hearer 3", x -> x.understands(0, 3, 0), Check.BAD);
        refused("understands of set 256", x -> x.understands(0, 0, 256), Check.BAD);
        refused("week of what 2", x -> x.week(2), Check.BAD);
        refused("letIn of 256", x -> x.letIn(256), Check.BAD);
        refused("image of k 2", x -> x.image(2), Check.BAD);
        refused("restore of k -1", x -> x.restore(-1), Check.BAD);
        refused("restore of none kept", x -> x.restore(0), Check.STATE);
    }

    private static void ofAsks() {
        refused("kind of WORD 8", x -> x.kind(0, 8), Check.BAD);
        refused("as of TONGUE 2, KIND 6", x -> x.as(2, 0, 6), Check.BAD);
        refused("as of WORD 8", x -> x.as(0, 8, 0), Check.BAD);
        refused("as of KIND 6", x -> x.as(0, 0, 6), Check.BAD);
        refused("as of no such KIND", x -> x.as(1, 0, 4), Check.KIND);
        refused("ask of what 2", x -> x.ask(0, 0, 2), Check.BAD);
        refused("ask of WORD 2", x -> x.ask(1, 2, 0), Check.BAD);
        refused("trace beyond", x -> x.trace(7), Check.NONE);
        refused("count of what 6", x -> x.count(6), Check.BAD);
    }

    /** A fault leaves all but the tape and fault(); a full tape leaves all. */
    private static void faultsAndFullTapes() {
        DayTongues x = made();
        Check.due("port() of a tape that ends too soon", x.port(), -1000106);
        Check.due("status() stays", x.status(), 3);
        Check.due("the tape is empty", x.count(5), 0);
        Check.due("fault()", x.fault(), 1);
        DayTongues y = made();
        Check.due("a text that is none", Check.read(y, ";word plain 300;"), -1000118);
        Check.due("fault() stays at 2", y.fault(), 2);
        DayTongues z = made();
        Check.due("a port again, the tape empty", Check.read(z, ";word;"), -1000111);
        List<Integer> due = all(made());
        List<Integer> seen = all(x);
        for (int i = 0; i < due.size(); i++) {
            // The tape's bytes and the fault are told at 5 and 6, the port read at the end.
            if (i != 5 && i != 6 && i != due.size() - 1) {
                Check.due("what is seen, " + i + ", after a fault", seen.get(i), due.get(i));
            }
        }
        DayTongues full = new DayTongues();
        Check.due("a mark in status()", full.drop(0), Check.NULL);
        Check.feed(full, "tongue;" + " ".repeat(492));
        Check.due("two bytes more", full.feed(0x2020L, 2), Check.FULL);
        Check.due("status() stays", full.status(), 1);
        Check.due("none came", full.count(5), 499);
        Check.due("one byte more", full.feed(0x20L, 1), 500);
        Check.due("the port", full.port(), 1);
    }
}
