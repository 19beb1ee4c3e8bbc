/** Promises 13 to 16: what sayings may mean, the shortest, what can be said, bargains. */
public final class SayingsTest {
    private static final String TWO = "tongue;word plain 1;word double 2 4;word oath 3 5 8;tongue;word plain 16;";

    public static void main(String[] args) {
        meanings();
        meansRefused();
        shortest();
        shortestRefused();
        sayable();
        bargains();
        bargainsRefused();
        Check.end();
    }

    private static void all(DayTongues x, int day, int row, int i, int n, int... sets) {
        String what = "means on " + day + " of " + n + " from " + i;
        Check.due(what, x.means(day, row, i, n, -1), sets.length);
        for (int k = 0; k < sets.length; k++) {
            Check.due(what + " number " + k, x.means(day, row, i, n, k), sets[k]);
        }
        Check.due(what + " beyond", x.means(day, row, i, n, sets.length), Check.NONE);
        Check.due(what + " far beyond", x.means(day, row, i, n, Integer.MAX_VALUE), Check.NONE);
    }

    private static void meanings() {
        DayTongues x = Check.port(TWO);
        Check.lay(x, 3, 0, 0, 1, 2, 1, 0, 0, 0);
        all(x, 0, 3, 0, 0, 0);
        all(x, 0, 3, 7, 0, 0);
        all(x, 0, 3, 0, 1, 1);
        all(x, 0, 3, 1, 1, 2, 4);
        all(x, 0, 3, 0, 2, 3, 5);
        all(x, 0, 3, 1, 2, 3, 5, 7, 10, 12);
        all(x, 0, 3, 1, 3, 3, 5, 7, 10, 12, 14);
        all(x, 1000000, 3, 1, 3, 3, 5, 7, 10, 12, 14);
        all(x, 999999, 3, 4, 3, 16);
        all(x, 1, 3, 0, 1, 16);
        Check.lay(x, 4, 2, 1, 1, 1, 1, 1, 1);
        all(x, 2, 4, 0, 6, 2, 4, 6);
    }

    private static void meansRefused() {
        DayTongues x = new DayTongues();
        Check.due("no PORT", x.means(-1, -1, 0, 0, 0), Check.STATE);
        Check.read(x, TWO);
        Check.lay(x, 0, 2, 0, 2, 3, -1, 0);
        Check.due("day -1", x.means(-1, 0, 0, 1, 0), Check.BAD);
        Check.due("day 1000001", x.means(1000001, 0, 0, 1, 0), Check.BAD);
        Check.due("row -1", x.means(0, -1, 0, 1, 0), Check.BAD);
        Check.due("row 8", x.means(0, 8, 0, 1, 0), Check.BAD);
        Check.due("-1 WORDS", x.means(0, 0, 0, -1, 0), Check.BAD);
        Check.due("7 WORDS", x.means(0, 0, 0, 7, 0), Check.BAD);
        Check.due("k -2", x.means(0, 0, 0, 1, -2), Check.BAD);
        Check.due("BAD ahead of NULL", x.means(0, 1, 0, 7, 0), Check.BAD);
        Check.due("NULL", x.means(0, 1, 0, 0, 0), Check.NULL);
        Check.due("NULL ahead of PLACE", x.means(0, 1, -1, 1, 0), Check.NULL);
        Check.due("PLACE below", x.means(0, 0, -1, 1, 0), Check.PLACE);
        Check.due("PLACE beyond", x.means(0, 0, 5, 1, 0), Check.PLACE);
        Check.due("PLACE at the end", x.means(0, 0, 4, 2, 0), Check.PLACE);
        Check.due("PLACE ahead of a wrong WORD", x.means(0, 0, 2, 4, 0), Check.PLACE);
        Check.due("PLACE far", x.means(0, 0, Integer.MAX_VALUE, 6, 0), Check.PLACE);
        Check.due("PLACE of none", x.means(0, 0, 6, 0, 0), Check.PLACE);
        Check.due("a WORD 3", x.means(0, 0, 0, 3, 0), Check.BAD);
        Check.due("a WORD -1", x.means(0, 0, 3, 1, 0), Check.BAD);
        Check.due("a WORD of another TONGUE", x.means(1, 0, 1, 1, 0), Check.BAD);
        Check.due("the WORDS ahead of it", x.means(0, 0, 0, 2, -1), 3);
    }

    private static void said(DayTongues x, int day, int meaning, int what, int... words) {
        String call = "shortest(" + day + ", " + meaning + ", " + what + ")";
        Check.due(call, x.shortest(day, meaning, what, -1), words.length);
        for (int k = 0; k < words.length; k++) {
            Check.due(call + " number " + k, x.shortest(day, meaning, what, k), words[k]);
        }
        Check.due(call + " beyond", x.shortest(day, meaning, what, words.length), Check.NONE);
        Check.due(call + " far beyond", x.shortest(day, meaning, what, Integer.MAX_VALUE), Check.NONE);
    }

    private static void unsaid(DayTongues x, int day, int meaning, int what) {
        String call = "shortest(" + day + ", " + meaning + ", " + what + ")";
        Check.due(call, x.shortest(day, meaning, what, -1), Check.NONE);
        Check.due(call + " first", x.shortest(day, meaning, what, 0), Check.NONE);
    }

    private static void shortest() {
        DayTongues x = Check.port("tongue;word plain 2;word double 1 4;word double 3 1;word plain 8;word plain 1;"
            + "word oath 9 24;tongue;word double 1 2 4;");
        said(x, 0, 0, 0);
        said(x, 0, 0, 1);
        said(x, 0, 2, 0, 0);
        said(x, 0, 1, 0, 1);
        said(x, 0, 3, 0, 2);
        said(x, 0, 5, 0, 1, 1);
        said(x, 0, 1, 1, 4);
        said(x, 0, 3, 1, 0, 2);
        unsaid(x, 0, 4, 1);
        unsaid(x, 0, 5, 1);
        said(x, 0, 10, 1, 0, 3);
        said(x, 0, 11, 1, 0, 2, 3);
        unsaid(x, 0, 24, 1);
        unsaid(x, 0, 25, 1);
        said(x, 0, 9, 1, 3, 4);
        said(x, 0, 25, 0, 1, 5);
        unsaid(x, 0, 64, 0);
        unsaid(x, 0, 255, 1);
        said(x, 1, 7, 0, 0, 0, 0);
        said(x, 999999, 6, 0, 0, 0);
        unsaid(x, 1, 7, 1);
        unsaid(x, 1, 1, 1);
        DayTongues y = Check.port("tongue;word plain 1;word plain 2;word double 3 4;word oath 6 9;word plain 5;");
        // Two sets are reached by one first word: the second word decides.
        said(y, 0, 7, 0, 0, 3);
        said(y, 0, 15, 0, 3, 3);
        said(y, 0, 11, 0, 1, 3);
        DayTongues z = Check.port(Check.EIGHT);
        said(z, 7, 255, 0, 0, 1, 2, 3, 4, 5, 6, 7);
        said(z, 7, 255, 1, 0, 1, 2, 3, 4, 5, 6, 7);
        said(z, 7, 129, 1, 0, 7);
    }

    private static void shortestRefused() {
        DayTongues x = new DayTongues();
        Check.due("no PORT", x.shortest(-1, -1, -1, -2), Check.STATE);
        Check.read(x, TWO);
        int[][] bad = {{-1, 0, 0, 0}, {1000001, 0, 0, 0}, {0, -1, 0, 0}, {0, 256, 0, 0}, {0, 0, -1, 0}, {0, 0, 2, 0},
            {0, 0, 0, -2}, {0, Integer.MAX_VALUE, 0, 0}, {0, Integer.MIN_VALUE, 0, 0}};
        for (int[] call : bad) {
            Check.due("shortest of " + call[0] + " " + call[1] + " " + call[2] + " " + call[3],
                x.shortest(call[0], call[1], call[2], call[3]), Check.BAD);
        }
        Check.due("the last day", x.shortest(1000000, 1, 0, 0), 0);
        Check.due("all told", x.shortest(0, 255, 0, -1), Check.NONE);
    }

    private static void sayable() {
        DayTongues x = new DayTongues();
        Check.due("no PORT", x.sayable(-1, 2), Check.STATE);
        Check.read(x, TWO + "tongue;tongue;word double 1 2;word oath 255;");
        Check.due("perhaps, of 16 alone", x.sayable(1, 0), 2);
        Check.due("surely, of 16 alone", x.sayable(1, 1), 2);
        Check.due("perhaps, without WORDS", x.sayable(2, 0), 1);
        Check.due("surely, without WORDS", x.sayable(2, 1), 1);
        Check.due("perhaps 0 1 2 3 255", x.sayable(3, 0), 5);
        Check.due("surely 0 255", x.sayable(3, 1), 2);
        // 1, 2, 3, 4, 5, 6, 7 and none, and these with 8.
        Check.due("perhaps, of the first", x.sayable(1000000, 0), 16);
        Check.due("surely, of the first", x.sayable(0, 1), 2);
        Check.due("day -1", x.sayable(-1, 0), Check.BAD);
        Check.due("day 1000001", x.sayable(1000001, 0), Check.BAD);
        Check.due("what -1", x.sayable(0, -1), Check.BAD);
        Check.due("what 2", x.sayable(0, 2), Check.BAD);
    }

    private static void bargain(DayTongues x, int row, int m, int... sets) {
        String what = "bargain of row " + row + " by " + m;
        Check.due(what, x.bargain(row, m, -1), sets.length);
        for (int k = 0; k < sets.length; k++) {
            Check.due(what + " number " + k, x.bargain(row, m, k), sets[k]);
        }
        Check.due(what + " beyond", x.bargain(row, m, sets.length), Check.NONE);
        Check.due(what + " far beyond", x.bargain(row, m, Integer.MAX_VALUE), Check.NONE);
    }

    private static void bargains() {
        DayTongues x = Check.port("tongue;word double 1 2;word double 2 4;tongue;word oath 3 6 2;");
        Check.lay(x, 0, 2, 0, 1, 0, 1, 1, 0, 2000000, 1, 1, 0, 2, 0, 1, 3, 0, 0, 0, 99);
        bargain(x, 0, 1, 1, 2);
        bargain(x, 0, 2, 2);
        bargain(x, 0, 3, 2);
        bargain(x, 0, 4, 2);
        bargain(x, 0, 5);
        Check.lay(x, 1, 1, 0, 2, 0, 1, 1, 1, 0);
        bargain(x, 1, 1, 2, 3, 5, 6);
        bargain(x, 1, 2, 2, 3, 6);
        Check.lay(x, 2, 2, Integer.MAX_VALUE, 6, 0, 0, 0, 0, 0, 0, 0, 0);
        bargain(x, 2, 1, 2, 3, 6, 7);
        bargain(x, 2, 2);
        Check.lay(x, 3, 0, 0, 0, 1, 0);
        bargain(x, 3, 2, 0);
    }

    private static void bargainsRefused() {
        DayTongues x = new DayTongues();
        Check.due("no PORT", x.bargain(-1, 0, -2), Check.STATE);
        Check.read(x, "tongue;word double 1 2;word double 2 4;tongue;word oath 3 6 2;");
        Check.due("row -1", x.bargain(-1, 1, 0), Check.BAD);
        Check.due("row 8", x.bargain(8, 1, 0), Check.BAD);
        Check.due("no SAYINGS", x.bargain(0, 0, 0), Check.BAD);
        Check.due("6 SAYINGS", x.bargain(0, 6, 0), Check.BAD);
        Check.due("k -2", x.bargain(0, 1, -2), Check.BAD);
        Check.due("NULL", x.bargain(0, 1, 0), Check.NULL);
        refused(x, Check.PLACE, 1);
        refused(x, Check.PLACE, 1, 0);
        refused(x, Check.BAD, 1, -1);
        refused(x, Check.BAD, 1, 0, 7);
        refused(x, Check.BAD, 1, 0, -1);
        refused(x, Check.PLACE, 1, 0, 1);
        refused(x, Check.PLACE, 1, 0, 6, 0, 0, 0, 0, 0);
        refused(x, Check.BAD, 1, 0, 6, 0, 2);
        refused(x, Check.BAD, 1, 0, 1, -1);
        refused(x, Check.BAD, 1, 1, 1, 1);
        refused(x, Check.PLACE, 2, 0, 0);
        refused(x, Check.BAD, 2, 0, 0, -1);
        refused(x, Check.PLACE, 2, 0, 0, 1, 2, 0);
        refused(x, Check.BAD, 2, 0, 0, 1, 2, 0, 1);
        refused(x, Check.BAD, 2, 0, 0, 1, 3, 1, 0);
    }

    private static void refused(DayTongues x, int want, int m, int... items) {
        Check.lay(x, 5, 0, items);
        StringBuilder told = new StringBuilder("bargain of");
        for (int item : items) {
            told.append(' ').append(item);
        }
        Check.due(told.toString(), x.bargain(5, m, -1), want);
        Check.due("status() of " + told, x.status(), want == Check.PLACE ? 2 : 0);
    }
}
