import java.nio.charset.StandardCharsets;

/** What the tests share: answers compared, texts fed, ports made. */
final class Check {
    static final int NONE = -1000000, BAD = -1000001, STATE = -1000002, FULL = -1000003;
    static final int NULL = -1000011, PLACE = -1000012, KIND = -1000013, SIZE = -1000014, STORE = -1000015;

    private static int wrong = 0;
    private static int made = 0;

    private Check() {
    }

    static void due(String what, long got, long want) {
        made++;
        if (got != want) {
            wrong++;
            System.out.println(what + " answered " + got + ", due is " + want);
        }
    }

    static void end() {
        System.out.println(made + " answers, " + wrong + " wrong");
        if (wrong != 0 || made == 0) {
            System.exit(1);
        }
    }

    /** Feeds a text, eight bytes at a time. */
    static void feed(DayTongues x, String text) {
        byte[] bytes = text.getBytes(StandardCharsets.ISO_8859_1);
        for (int at = 0; at < bytes.length; at += 8) {
            int n = Math.min(8, bytes.length - at);
            long w = 0;
            for (int i = 0; i < n; i++) {
                w = w << 8 | bytes[at + i] & 255;
            }
            due("feed of " + text, x.feed(w, n), x.count(5));
        }
    }

    static int read(DayTongues x, String text) {
        feed(x, text);
        return x.port();
    }

    static DayTongues port(String text) {
        DayTongues x = new DayTongues();
        int tongues = read(x, text);
        due("port() of " + text + " is none", tongues > 0 ? 1 : tongues, 1);
        return x;
    }

    static void lay(DayTongues x, int row, int lane, int... items) {
        due("row(" + row + ", " + lane + ", " + items.length + ")", x.row(row, lane, items.length), items.length);
        for (int i = 0; i < items.length; i++) {
            x.set(row, i, items[i]);
        }
    }

    static final String EIGHT = "tongue;word plain 1;word plain 2;word plain 4;word plain 8;"
        + "word plain 16;word plain 32;word plain 64;word plain 128;person 1;";

    /** An item of a row, 0 to 7, told by the word that it is in a port of EIGHT; BAD where it is none of these. */
    static int item(DayTongues x, int row, int i) {
        int meaning = x.means(0, row, i, 1, 0);
        return meaning > 0 ? Integer.numberOfTrailingZeros(meaning) : meaning;
    }

    /** Leaves finding 3 in status(), by as() of a plain word 0 of tongue 0; what must not touch it is called next. */
    static void mark(DayTongues x) {
        due("as, for a mark in status()", x.as(0, 0, 4), KIND);
        due("status() after it", x.status(), 3);
    }
}
