/** Promises 17 to 22: who understands whom, the week, words let in, undated letters, images. */
public final class PeopleTest {
    private static final String CHAIN = "tongue;tongue;tongue;tongue;word plain 1;"
        + "person 1;person 3;person 6;person 12;person 8;person 0;";

    public static void main(String[] args) {
        understands();
        understandsRefused();
        week();
        weekRefused();
        letIn();
        letInRefused();
        dated();
        datedRefused();
        images();
        imagesRefused();
        Check.end();
    }

    private static void understands() {
        DayTongues x = Check.port(CHAIN);
        Check.due("he knows it", x.understands(0, 0, 0), 0);
        Check.due("on a late day", x.understands(1000000, 1, 255), 0);
        Check.due("by one", x.understands(1, 0, 255), 1);
        Check.due("by two", x.understands(2, 0, 255), 2);
        Check.due("by three", x.understands(3, 0, 255), 3);
        Check.due("by three, by just these", x.understands(3, 0, 14), 3);
        Check.due("not himself", x.understands(3, 0, 15), 3);
        Check.due("the other end", x.understands(0, 4, 14), 3);
        Check.due("a gap", x.understands(0, 4, 10), Check.NONE);
        Check.due("bits for nobody", x.understands(0, 4, 192), Check.NONE);
        Check.due("bits for nobody, too", x.understands(0, 4, 192 + 14), 3);
        Check.due("by none", x.understands(1, 0, 0), Check.NONE);
        Check.due("who knows none", x.understands(0, 5, 255), Check.NONE);
        Check.due("who knows none, on day 4", x.understands(4, 5, 255), Check.NONE);
        DayTongues y = Check.port("tongue;tongue;tongue;person 1;person 3;person 6;person 5;");
        Check.due("the shorter way", y.understands(2, 0, 255), 1);
        Check.due("the longer way", y.understands(2, 0, 6), 2);
        Check.due("himself is no way", y.understands(2, 1, 2), Check.NONE);
        Check.due("another is", y.understands(2, 1, 8), 1);
        DayTongues z = Check.port("tongue;tongue;tongue;tongue;tongue;tongue;tongue;"
            + "person 1;person 3;person 6;person 12;person 24;person 48;person 96;person 64;");
        Check.due("by six", z.understands(6, 0, 255), 6);
        Check.due("by six, back", z.understands(0, 7, 126), 6);
    }

    private static void understandsRefused() {
        DayTongues x = new DayTongues();
        Check.due("nobody", x.understands(0, 0, 0), Check.BAD);
        Check.read(x, CHAIN);
        int[][] bad = {{-1, 0, 0}, {1000001, 0, 0}, {0, -1, 0}, {0, 6, 0}, {0, 8, 0}, {0, 0, -1}, {0, 0, 256},
            {0, Integer.MAX_VALUE, 0}, {0, Integer.MIN_VALUE, 0}};
        for (int[] call : bad) {
            Check.due("understands of " + call[0] + " " + call[1] + " " + call[2],
                x.understands(call[0], call[1], call[2]), Check.BAD);
        }
    }

    private static void week(String text, int fewest, int who) {
        DayTongues x = Check.port(text);
        Check.due("week(0) of " + text, x.week(0), fewest);
        Check.due("week(1) of " + text, x.week(1), who);
    }

    private static void week() {
        week("tongue;tongue;", 0, 0);
        week("tongue;tongue;person 3;person 3;", 0, 0);
        week("tongue;tongue;person 3;person 1;", 1, 1);
        week("tongue;tongue;person 1;person 2;", Check.NONE, Check.NONE);
        week("tongue;tongue;person 3;person 0;", Check.NONE, Check.NONE);
        week("tongue;tongue;person 1;person 3;person 2;person 3;", 1, 2);
        week("tongue;tongue;tongue;tongue;person 1;person 3;person 6;person 12;person 8;", 3, 14);
        week("tongue;tongue;tongue;person 1;person 2;person 4;person 3;person 6;person 5;", 2, 24);
        week("tongue;tongue;tongue;person 1;person 2;person 4;person 3;person 6;person 7;", 1, 32);
        week("tongue;tongue;tongue;person 3;", Check.NONE, Check.NONE);
    }

    private static void weekRefused() {
        DayTongues x = new DayTongues();
        Check.due("no PORT", x.week(2), Check.STATE);
        Check.read(x, CHAIN);
        Check.due("week(-1)", x.week(-1), Check.BAD);
        Check.due("week(2)", x.week(2), Check.BAD);
        Check.due("week(0)", x.week(0), Check.NONE);
    }

    private static void letIn() {
        DayTongues x = Check.port("tongue;word plain 1;word double 2 3;tongue;word plain 1;word plain 4;tongue;");
        // 1 helps nowhere but in the third; 2 brings 2 3 in the first, 2 3 6 7 in the second, 2 in the third.
        Check.due("1", x.letIn(1), 2);
        Check.due("2", x.letIn(2), 1);
        Check.due("it is not let in", x.words(1), 2);
        Check.due("nor said", x.sayable(1, 1), 4);
        Check.due("255", x.letIn(255), 0);
        DayTongues y = Check.port("tongue;word plain 1;tongue;word plain 1;tongue;word double 1 2;");
        Check.due("nothing anywhere but by the third", y.letIn(1), 2);
        Check.due("the first of several", y.letIn(2), 0);
        DayTongues z = Check.port("tongue;word plain 1;tongue;word plain 1;");
        Check.due("nothing anywhere", z.letIn(1), 0);
        DayTongues full = Check.port("tongue;" + "word plain 1;".repeat(8) + "tongue;" + "word plain 2;".repeat(7));
        Check.due("a full one is left out", full.letIn(2), 1);
        Check.due("a full one is left out, 4", full.letIn(4), 1);
        Check.due("each has 8", Check.port(Check.EIGHT).letIn(1), Check.NONE);
    }

    private static void letInRefused() {
        DayTongues x = new DayTongues();
        Check.due("no PORT", x.letIn(0), Check.STATE);
        Check.read(x, CHAIN);
        Check.due("0", x.letIn(0), Check.BAD);
        Check.due("-1", x.letIn(-1), Check.BAD);
        Check.due("256", x.letIn(256), Check.BAD);
    }

    private static void dated() {
        DayTongues x = Check.port("tongue;word plain 1;word double 2 4;tongue;word oath 1 3 5;tongue;word plain 3;word plain 1;"
            + "tongue;");
        Check.lay(x, 2, 0, 0, 1, 7, 0);
        Check.due("no WORDS mean 0", x.dated(2, 0, 0, 0), 15);
        Check.due("no WORDS at the end", x.dated(2, 4, 0, 0), 15);
        Check.due("no WORDS mean 1", x.dated(2, 0, 0, 1), 0);
        Check.due("0 means 1", x.dated(2, 0, 1, 1), 3);
        Check.due("0 means 3", x.dated(2, 0, 1, 3), 6);
        Check.due("0 means 0", x.dated(2, 0, 1, 0), 0);
        Check.due("0 1 means 3", x.dated(2, 0, 2, 3), 5);
        Check.due("0 1 means 5", x.dated(2, 0, 2, 5), 1);
        Check.due("7 is no WORD yet", x.dated(2, 2, 1, 1), 0);
        Check.due("7 0 means 1", x.dated(2, 2, 2, 1), 0);
    }

    private static void datedRefused() {
        DayTongues x = new DayTongues();
        Check.due("no PORT", x.dated(-1, -1, -1, -1), Check.STATE);
        Check.read(x, CHAIN);
        Check.lay(x, 0, 0, 0, 8, -1, 7);
        Check.due("row -1", x.dated(-1, 0, 0, 0), Check.BAD);
        Check.due("row 8", x.dated(8, 0, 0, 0), Check.BAD);
        Check.due("-1 WORDS", x.dated(0, 0, -1, 0), Check.BAD);
        Check.due("7 WORDS", x.dated(0, 0, 7, 0), Check.BAD);
        Check.due("meaning -1", x.dated(0, 0, 0, -1), Check.BAD);
        Check.due("meaning 256", x.dated(0, 0, 0, 256), Check.BAD);
        Check.due("meaning 255", x.dated(0, 0, 0, 255), 0);
        Check.due("NULL", x.dated(1, 0, 0, 0), Check.NULL);
        Check.due("PLACE below", x.dated(0, -1, 1, 0), Check.PLACE);
        Check.due("PLACE beyond", x.dated(0, 3, 2, 0), Check.PLACE);
        Check.due("PLACE far", x.dated(0, Integer.MAX_VALUE, 6, 0), Check.PLACE);
        Check.due("PLACE ahead of an ITEM", x.dated(0, 1, 4, 0), Check.PLACE);
        Check.due("ITEM 8", x.dated(0, 0, 2, 0), Check.BAD);
        Check.due("ITEM -1", x.dated(0, 2, 1, 0), Check.BAD);
        Check.due("ITEM 7", x.dated(0, 3, 1, 0), 0);
        Check.due("ITEM 8 behind those told", x.dated(0, 0, 1, 1), 8);
    }

    private static void images() {
        DayTongues x = Check.port("tongue;word plain 1;tongue;word double 2 3;person 1;");
        Check.lay(x, 0, 0, 5, 6);
        Check.due("image(0)", x.image(0), 1);
        Check.due("a drift", x.drift(100, 1), 100);
        int drifted = x.word(1, 0, 1);
        Check.due("image(1)", x.image(1), 1);
        Check.due("port()", Check.read(x, "tongue;tongue;tongue;word oath 7 8 9;person 4;person 5;"), 3);
        Check.due("kind of the third", x.kind(2, 0), 5);
        Check.due("restore(1)", x.restore(1), 1);
        Check.due("TONGUES", x.count(1), 2);
        Check.due("years", x.count(4), 100);
        Check.due("a READING drifted", x.word(1, 0, 1), drifted);
        Check.due("restore(0)", x.restore(0), 1);
        Check.due("years", x.count(4), 0);
        Check.due("WORDS", x.count(2), 2);
        Check.due("PEOPLE", x.count(3), 1);
        Check.due("knows(0)", x.knows(0), 1);
        Check.due("a plain one", x.word(0, 0, 1), 1);
        Check.due("a READING", x.word(1, 0, 1), 2);
        Check.due("a second", x.word(1, 0, 2), 3);
        Check.due("a kind", x.kind(1, 0), 4);
        Check.due("rows stay", x.set(0, 1, 3), 3);
        Check.due("a drift again", x.drift(100, 1), 100);
        Check.due("the same READING", x.word(1, 0, 1), drifted);
        Check.due("restore(0) again", x.restore(0), 1);
        Check.due("the image is as it was", x.word(1, 0, 1), 2);
        Check.due("port()", Check.read(x, "tongue;"), 1);
        Check.due("image(0) anew", x.image(0), 1);
        Check.due("restore(1)", x.restore(1), 1);
        Check.due("TONGUES", x.count(1), 2);
        Check.due("restore(0)", x.restore(0), 1);
        Check.due("TONGUES of the later image", x.count(1), 1);
        Check.due("WORDS of the later image", x.count(2), 0);
        Check.due("PEOPLE of the later image", x.count(3), 0);
    }

    private static void imagesRefused() {
        DayTongues x = new DayTongues();
        Check.due("no PORT", x.image(0), Check.STATE);
        Check.due("BAD ahead of no PORT", x.image(2), Check.BAD);
        Check.due("none kept", x.restore(1), Check.STATE);
        Check.due("BAD ahead of none kept", x.restore(-1), Check.BAD);
        Check.read(x, CHAIN);
        Check.due("image(-1)", x.image(-1), Check.BAD);
        Check.due("image(2)", x.image(2), Check.BAD);
        Check.due("restore(0) of none", x.restore(0), Check.STATE);
        Check.due("image(1)", x.image(1), 1);
        Check.due("restore(0) of none still", x.restore(0), Check.STATE);
        Check.due("restore(2)", x.restore(2), Check.BAD);
        Check.due("the PORT stays", x.count(1), 4);
        Check.due("restore(1)", x.restore(1), 1);
    }
}
