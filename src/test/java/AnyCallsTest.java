/** Any calls with any numbers: none throws, all end, and what is refused or found changes nothing but the status. */
public final class AnyCallsTest {
    private static final int[] NUMBERS = {Integer.MIN_VALUE, Integer.MIN_VALUE + 1, -2, -1, 0, 0, 1, 1, 2, 3, 4, 5,
        6, 7, 8, 9, 39, 40, 41, 100, 101, 255, 256, 999999, 1000000, 1000001, Integer.MAX_VALUE - 1, Integer.MAX_VALUE};
    private static final String[] TEXTS = {"tongue;", "tongue;word plain 3;word double 1 2;person 1;", "person", "tongue;word 1;",
        "tongue;tongue;word oath 1 2 4;word lent 8;tongue;word count 255;person 3;person 6;person 0;", " \n", "tongue;tongue;"};

    private static long x = 7;

    public static void main(String[] args) {
        for (int run = 0; run < 400; run++) {
            calls(run % 2 == 0);
        }
        Check.end();
    }

    private static int draw(int below) {
        x = x * 48271 % 2147483647;
        return (int) (x / 8 % below);
    }

    private static int any(boolean wild) {
        return wild ? NUMBERS[draw(NUMBERS.length)] : draw(9) - 1;
    }

    private static void calls(boolean wild) {
        DayTongues one = new DayTongues();
        DayTongues other = new DayTongues();
        for (int i = 0; i < 12; i++) {
            if (draw(3) == 0) {
                String text = TEXTS[draw(TEXTS.length)];
                if (one.count(5) + text.length() <= 500) {
                    Check.feed(one, text);
                    Check.feed(other, text);
                }
            }
            for (int call = 0; call < 14; call++) {
                int which = draw(27);
                int[] v = {any(wild), any(wild), any(wild), any(wild), any(wild)};
                int answer = answer(one, which, v);
                boolean refused = answer <= Check.BAD && answer > -1000100 || answer == Check.NONE;
                // The other object gets the calls alone that were not refused: the two stay alike.
                if (!refused) {
                    Check.due("call " + which + " of two alike", answer(other, which, v), answer);
                }
            }
        }
        for (int what = 0; what <= 5; what++) {
            Check.due("count(" + what + ") of two alike", other.count(what), one.count(what));
        }
        Check.due("fault() of two alike", other.fault(), one.fault());
        for (int i = 0; i < 16; i++) {
            Check.due("trace(" + i + ") of two alike", other.trace(i), one.trace(i));
        }
    }

    private static int answer(DayTongues one, int which, int[] v) {
        switch (which) {
            case 0: return one.row(v[0], v[1], v[2]);
            case 1: return one.set(v[0], v[1], v[2]);
            case 2: return one.copy(v[0], v[1], v[2], v[3], v[4]);
            case 3: return one.drop(v[0]);
            case 4: return one.feed((long) v[0] << 32 ^ v[1], v[2]);
            case 5: return one.port();
            case 6: return one.fault();
            case 7: return one.drift(v[0], v[1]);
            case 8: return one.word(v[0], v[1], v[2]);
            case 9: return one.words(v[0]);
            case 10: return one.knows(v[0]);
            case 11: return one.means(v[0], v[1], v[2], v[3], v[4]);
            case 12: return one.shortest(v[0], v[1], v[2], v[3]);
            case 13: return one.sayable(v[0], v[1]);
            case 14: return one.bargain(v[0], v[1], v[2]);
            case 15: return one.understands(v[0], v[1], v[2]);
            case 16: return one.week(v[0]);
            case 17: return one.letIn(v[0]);
            case 18: return one.dated(v[0], v[1], v[2], v[3]);
            case 19: return one.image(v[0]);
            case 20: return one.restore(v[0]);
            case 21: return one.kind(v[0], v[1]);
            case 22: return one.as(v[0], v[1], v[2]);
            case 23: return one.ask(v[0], v[1], v[2]);
            case 24: return one.trace(v[0]);
            case 25: return one.count(v[0]);
            default: return one.shortest(v[0], v[1], v[2] & 1, v[3] - 1);
        }
    }
}
