/** Promises 1 to 5: a new object and its ROWS. */
public final class RowsTest {
    public static void main(String[] args) {
        newObject();
        rows();
        items();
        copies();
        drops();
        Check.end();
    }

    private static void newObject() {
        DayTongues x = new DayTongues();
        for (int what = 0; what <= 5; what++) {
            Check.due("new count(" + what + ")", x.count(what), 0);
        }
        Check.due("new status()", x.status(), 0);
        Check.due("new fault()", x.fault(), 0);
        Check.due("new trace(0)", x.trace(0), Check.NONE);
        Check.due("new sayable", x.sayable(0, 0), Check.STATE);
        Check.due("new restore(1)", x.restore(1), Check.STATE);
        for (int row = 0; row < 8; row++) {
            Check.due("new drop(" + row + ")", x.drop(row), Check.NULL);
        }
    }

    private static void rows() {
        DayTongues x = Check.port(Check.EIGHT);
        Check.due("row of none", x.row(0, 0, 0), 0);
        Check.due("row of 40", x.row(7, 2, 40), 40);
        Check.due("count(0)", x.count(0), 2);
        Check.due("row -1", x.row(-1, 0, 1), Check.BAD);
        Check.due("row 8", x.row(8, 0, -1), Check.BAD);
        Check.due("lane -1", x.row(0, -1, 1), Check.BAD);
        Check.due("lane 3", x.row(0, 3, -1), Check.BAD);
        Check.due("41 items", x.row(0, 0, 41), Check.BAD);
        Check.due("items beyond all", x.row(0, 0, Integer.MAX_VALUE), Check.BAD);
        Check.due("an item kept", x.set(7, 39, 70000), 70000);
        Check.due("fewer than none", x.row(7, 0, -1), Check.SIZE);
        Check.due("fewest", x.row(7, 0, Integer.MIN_VALUE), Check.SIZE);
        Check.due("a row refused changes none", x.set(7, 38, 70000), 70000);
        Check.due("an item that is no word", Check.item(x, 7, 39), Check.BAD);
        Check.due("row in its place", x.row(7, 2, 40), 40);
        Check.due("item 39 is 0 anew", Check.item(x, 7, 39), 0);
        Check.due("item 38 is 0 anew", Check.item(x, 7, 38), 0);
        Check.due("shorter, of another lane", x.row(7, 0, 3), 3);
        Check.due("lane 0 now", x.set(7, 2, 257), 1);
        Check.due("its end", x.set(7, 3, 1), Check.PLACE);
        Check.due("item 0", x.set(7, 0, 5), 5);
        Check.due("longer again", x.row(7, 0, 4), 4);
        Check.due("item 0 is 0 anew", Check.item(x, 7, 0), 0);
        Check.due("item 2 is 0 anew", Check.item(x, 7, 2), 0);
        Check.due("item 3", x.set(7, 3, 5), 5);
        Check.due("dropped", x.drop(7), 4);
        Check.due("laid anew", x.row(7, 0, 4), 4);
        Check.due("item 3 is 0 anew", Check.item(x, 7, 3), 0);
        Check.due("count(0) in the end", x.count(0), 2);
    }

    private static void items() {
        DayTongues x = Check.port(Check.EIGHT);
        Check.lay(x, 0, 0, 0, 0);
        Check.lay(x, 1, 1, 0, 0);
        Check.lay(x, 2, 2, 0, 0);
        int[] given = {0, 7, 8, -1, 127, 128, 255, 256, 258, -129, -250, 32767, 32768, 65535, 65536, 65539, -32769,
            -65530, Integer.MAX_VALUE, Integer.MIN_VALUE, Integer.MIN_VALUE + 5};
        for (int v : given) {
            Check.due("byte " + v, x.set(0, 1, v), (byte) v);
            Check.due("short " + v, x.set(1, 1, v), (short) v);
            Check.due("int " + v, x.set(2, 1, v), v);
            Check.due("byte kept of " + v, Check.item(x, 0, 1), word((byte) v));
            Check.due("short kept of " + v, Check.item(x, 1, 1), word((short) v));
            Check.due("int kept of " + v, Check.item(x, 2, 1), word(v));
            Check.due("the item beside it", Check.item(x, 0, 0), 0);
        }
        Check.due("set in row -1", x.set(-1, 0, 1), Check.BAD);
        Check.due("set in row 8", x.set(8, 0, 1), Check.BAD);
        Check.due("set in none", x.set(3, -1, 1), Check.NULL);
        Check.due("place -1", x.set(0, -1, 1), Check.PLACE);
        Check.due("place 2", x.set(0, 2, 1), Check.PLACE);
        Check.due("place far", x.set(0, Integer.MAX_VALUE, 1), Check.PLACE);
        Check.due("place far below", x.set(0, Integer.MIN_VALUE, 1), Check.PLACE);
    }

    private static int word(int item) {
        return item >= 0 && item <= 7 ? item : Check.BAD;
    }

    private static void copies() {
        DayTongues x = Check.port(Check.EIGHT);
        Check.lay(x, 0, 1, 1, 2, 3, 4, 5);
        Check.lay(x, 1, 1, 6, 7, 0);
        Check.lay(x, 2, 0, 7, 7, 7);
        Check.due("copy between", x.copy(1, 1, 0, 3, 2), 2);
        holds(x, 0, 1, 2, 3, 7, 0);
        Check.due("copy up in itself", x.copy(0, 0, 0, 1, 4), 4);
        holds(x, 0, 1, 1, 2, 3, 7);
        Check.due("copy down in itself", x.copy(0, 1, 0, 0, 4), 4);
        holds(x, 0, 1, 2, 3, 7, 7);
        Check.due("copy whole", x.copy(1, 0, 0, 0, 3), 3);
        holds(x, 0, 6, 7, 0, 7, 7);
        Check.due("copy of none at the ends", x.copy(0, 5, 1, 3, 0), 0);
        Check.due("rows below", x.copy(-1, 0, 1, 0, 1), Check.BAD);
        Check.due("rows above", x.copy(1, 0, 8, 0, 1), Check.BAD);
        Check.due("rows ahead of none", x.copy(5, 0, 8, 0, 1), Check.BAD);
        Check.due("first is none", x.copy(5, 0, 1, 0, 1), Check.NULL);
        Check.due("second is none", x.copy(1, -1, 5, 0, 1), Check.NULL);
        Check.due("two lanes", x.copy(1, 0, 2, 0, 1), Check.STORE);
        Check.due("two lanes, none told", x.copy(1, 0, 2, 0, 0), Check.STORE);
        Check.due("two lanes ahead of places", x.copy(1, -1, 2, 0, -1), Check.STORE);
        Check.due("i below", x.copy(1, -1, 0, 0, 1), Check.PLACE);
        Check.due("j below", x.copy(1, 0, 0, -1, 1), Check.PLACE);
        Check.due("n below", x.copy(1, 0, 0, 0, -1), Check.PLACE);
        Check.due("i below, none told", x.copy(1, -1, 0, 0, 0), Check.PLACE);
        Check.due("beyond the first end", x.copy(1, 2, 0, 0, 2), Check.PLACE);
        Check.due("beyond the second end", x.copy(1, 0, 0, 3, 3), Check.PLACE);
        Check.due("none beyond the first end", x.copy(1, 4, 0, 0, 0), Check.PLACE);
        Check.due("none beyond the second end", x.copy(1, 0, 0, 6, 0), Check.PLACE);
        Check.due("n far", x.copy(1, 1, 0, 1, Integer.MAX_VALUE), Check.PLACE);
        Check.due("n far below", x.copy(1, 1, 0, 1, Integer.MIN_VALUE), Check.PLACE);
        Check.due("i far", x.copy(1, Integer.MAX_VALUE, 0, 1, 1), Check.PLACE);
        Check.due("j far", x.copy(1, 0, 0, Integer.MAX_VALUE, 3), Check.PLACE);
        holds(x, 0, 6, 7, 0, 7, 7);
        holds(x, 1, 6, 7, 0);
        holds(x, 2, 7, 7, 7);
    }

    private static void drops() {
        DayTongues x = new DayTongues();
        Check.lay(x, 4, 2, 1, 2, 3);
        Check.due("row of none", x.row(5, 2, 0), 0);
        Check.due("drop", x.drop(4), 3);
        Check.due("drop of none", x.drop(5), 0);
        Check.due("drop again", x.drop(4), Check.NULL);
        Check.due("set when dropped", x.set(4, 0, 1), Check.NULL);
        Check.due("copy when dropped", x.copy(4, 0, 4, 0, 0), Check.NULL);
        Check.due("drop -1", x.drop(-1), Check.BAD);
        Check.due("drop 8", x.drop(8), Check.BAD);
        Check.due("count(0)", x.count(0), 0);
    }

    private static void holds(DayTongues x, int row, int... items) {
        for (int i = 0; i < items.length; i++) {
            Check.due("item " + i + " of row " + row, Check.item(x, row, i), items[i]);
        }
        Check.due("end of row " + row, x.set(row, items.length, 0), Check.PLACE);
    }
}
