/** Rows of calls drawn by a fixed row of numbers, near the bounds and beyond: each answer against that of the Model. */
public final class ModelTest {
    // An object is used for 512 calls; the latest turn may take the rest of them.
    private static final int MOST_CALLS = 512, LATEST_TURN = 250;
    private static final String[] SORTS = {"plain", "count", "lent", "double", "oath"};
    private static final String[] TOKENS = {"tongue", "word", "person", "plain", "double", "oath", "lent", "count", ";", ";",
        "0", "1", "2", "255", "256", "007", "1000", "x", "tonguf", ":", "\t", "A", "" + (char) 200};
    private static final int[] EDGES = {Integer.MIN_VALUE, -2, -1, 0, 1, 2, 3, 4, 5, 6, 7, 8, 9, 40, 41, 100, 101, 255, 256,
        999999, 1000000, 1000001, Integer.MAX_VALUE};

    private static long drawn = 20261119;

    private final DayTongues one = new DayTongues();
    private final Model model = new Model();
    private final StringBuilder before = new StringBuilder();
    private int calls = 0;

    public static void main(String[] args) {
        for (int run = 0; run < 1500; run++) {
            new ModelTest().run(run % 8 == 0);
        }
        Check.end();
    }

    private static int draw(int below) {
        drawn = drawn * 48271 % 2147483647;
        return (int) (drawn / 8 % below);
    }

    /** Mostly a number from 0 on and below a bound, now and then any other. */
    private static int near(int below) {
        int turn = draw(24);
        if (turn == 0) {
            return EDGES[draw(EDGES.length)];
        }
        return turn == 1 ? below : turn == 2 ? -1 : draw(below);
    }

    private void run(boolean portLate) {
        if (!portLate) {
            feed(blanks(whole()));
            due("port()", one.port(), model.port());
        }
        while (calls < MOST_CALLS - LATEST_TURN) {
            act(draw(20));
        }
        for (int what = 0; what <= 5; what++) {
            due("count(" + what + ")", one.count(what), model.count(what));
        }
        for (int i = 0; i <= 16; i++) {
            due("trace(" + i + ")", one.trace(i), model.trace(i));
        }
        due("fault()", one.fault(), model.fault());
    }

    private void due(String call, int got, int want) {
        calls += 2;
        before.append(call).append(" = ").append(want).append('\n');
        Check.due(call, got, want);
        int status = one.status();
        Check.due("status() after " + call, status, model.status());
        if (got != want || status != model.status()) {
            System.out.println("behind\n" + before);
        }
    }

    private void act(int turn) {
        switch (turn) {
            case 0 -> layRow();
            case 1 -> layBargain();
            case 2 -> rowCall();
            case 3 -> copyCall();
            case 4 -> newPort();
            case 5 -> yearCall();
            case 6 -> portCall();
            case 7 -> meansCall();
            case 8 -> saying();
            case 9, 10 -> shortestCall();
            case 11 -> sayableCall();
            case 12 -> bargainCall();
            case 13, 14 -> peopleCall();
            case 15 -> datedCall();
            case 16 -> imageCall();
            case 17, 18 -> askCall();
            default -> countCall();
        }
    }

    // ---- rows

    private static int row() {
        return draw(3) == 0 ? near(8) : draw(3);
    }

    private void layRow() {
        int row = row();
        int lane = near(3);
        int n = draw(3) == 0 ? near(41) : draw(9);
        due("row(" + row + ", " + lane + ", " + n + ")", one.row(row, lane, n), model.row(row, lane, n));
        int most = 1 + draw(8);
        for (int i = 0; i < Math.min(n, 9); i++) {
            set(row, i, draw(12) == 0 ? EDGES[draw(EDGES.length)] : draw(most));
        }
    }

    private void set(int row, int i, int v) {
        due("set(" + row + ", " + i + ", " + v + ")", one.set(row, i, v), model.set(row, i, v));
    }

    /** A row as a bargain wants it, sometimes with one item that is not as told, or cut short. */
    private void layBargain() {
        int[] items = new int[40];
        int size = 0;
        int sayings = 1 + draw(5);
        for (int saying = 0; saying < sayings && size <= 32; saying++) {
            items[size] = draw(8) == 0 ? 1000001 + draw(1000000) : draw(7);
            int n = draw(draw(3) == 0 ? 7 : 3);
            items[size + 1] = n;
            for (int word = 0; word < n; word++) {
                items[size + 2 + word] = draw(3);
            }
            size += 2 + n;
        }
        if (draw(4) == 0) {
            items[draw(size)] = EDGES[draw(EDGES.length)];
        }
        int row = draw(8);
        int told = draw(4) == 0 ? draw(size + 1) : size;
        due("row(" + row + ", 2, " + told + ")", one.row(row, 2, told), model.row(row, 2, told));
        for (int i = 0; i < told; i++) {
            set(row, i, items[i]);
        }
        for (int k = -1; k < 2; k++) {
            due("bargain(" + row + ", " + sayings + ", " + k + ")", one.bargain(row, sayings, k),
                model.bargain(row, sayings, k));
        }
    }

    private void rowCall() {
        int row = row();
        if (draw(4) == 0) {
            due("drop(" + row + ")", one.drop(row), model.drop(row));
        } else {
            set(row, near(41), draw(2) == 0 ? EDGES[draw(EDGES.length)] : draw(Integer.MAX_VALUE) * (draw(2) * 2 - 1));
        }
    }

    private void copyCall() {
        int a = row();
        int i = near(5);
        int b = draw(3) == 0 ? a : row();
        int j = near(5);
        int n = near(6);
        due("copy(" + a + ", " + i + ", " + b + ", " + j + ", " + n + ")", one.copy(a, i, b, j, n), model.copy(a, i, b, j, n));
    }

    // ---- ports, years

    private void feed(String text) {
        int at = 0;
        while (at < text.length()) {
            int n = Math.min(draw(4) == 0 ? 1 + draw(8) : 8, text.length() - at);
            long w = draw(1000000);
            for (int i = 0; i < n; i++) {
                w = w << 8 | text.charAt(at + i);
            }
            due("feed(" + w + ", " + n + ")", one.feed(w, n), model.feed(w, n));
            at += n;
        }
    }

    private void newPort() {
        int turn = draw(8);
        if (turn == 0) {
            long w = (long) draw(Integer.MAX_VALUE) << 33 | draw(Integer.MAX_VALUE);
            int n = near(9);
            due("feed(" + w + ", " + n + ")", one.feed(w, n), model.feed(w, n));
            return;
        }
        if (turn == 1) {
            feed(" ".repeat(draw(60)));
        }
        if (turn == 2) {
            fillTape();
            return;
        }
        String text = text();
        if (calls + text.length() < MOST_CALLS - LATEST_TURN) {
            feed(text);
        }
        due("port()", one.port(), model.port());
        due("fault()", one.fault(), model.fault());
    }

    /** Nearly as many bytes as there may be, then some more: they come or there is no room. */
    private void fillTape() {
        feed(" ".repeat(480 + draw(20) - Math.min(480, model.count(5))));
        for (int turn = 0; turn < 6; turn++) {
            int n = 1 + draw(8);
            due("feed(59, " + n + ")", one.feed(59L, n), model.feed(59L, n));
        }
    }

    /** A text of a port, sometimes with tokens that make it none. */
    private static String text() {
        StringBuilder told = new StringBuilder(whole());
        if (draw(3) == 0) {
            told.insert(draw(told.length()), TOKENS[draw(TOKENS.length)]);
        }
        if (draw(6) == 0) {
            told.setLength(draw(told.length()));
        }
        return blanks(told.substring(0, Math.min(told.length(), 500)));
    }

    /** A text of a port that is one, but for now and then a word, a person, a tongue too many. */
    private static String whole() {
        int shape = draw(9);
        int tongues = shape == 0 ? 6 + draw(draw(2) == 0 ? 3 : 2) : shape == 1 ? 1 : 1 + draw(4);
        int mostWords = shape == 1 ? 9 : shape == 0 ? 3 : 6;
        StringBuilder told = new StringBuilder();
        for (int tongue = 0; tongue < tongues; tongue++) {
            told.append("tongue;");
            int words = shape == 1 ? 7 + draw(draw(2) == 0 ? 3 : 2) : draw(mostWords);
            for (int word = 0; word < words && told.length() < 420 - 9 * (tongues - tongue); word++) {
                addWord(told, draw(5), draw(2) == 0 ? 7 : 255);
            }
        }
        int people = shape == 2 ? 7 + draw(draw(2) == 0 ? 3 : 2) : draw(6);
        for (int person = 0; person < people && told.length() < 489; person++) {
            int known = draw(1 << tongues) & draw(1 << tongues) | (draw(2) == 0 ? 1 << draw(tongues) : 0);
            told.append("person ").append(draw(90) == 0 ? 1 << tongues : known).append(';');
        }
        return told.toString();
    }

    private static void addWord(StringBuilder told, int sort, int parts) {
        int readings = sort < 3 ? 1 : sort == 3 ? 2 + draw(2) : 1 + draw(3);
        told.append("word ").append(SORTS[sort]);
        for (int i = 0; i < readings; i++) {
            told.append(' ').append(draw(90) == 0 ? 255 + draw(2) : 1 + draw(parts));
        }
        told.append(draw(120) == 0 ? " 3;" : ";");
    }

    private static String blanks(String text) {
        switch (draw(4)) {
            case 0:
                return text.replace(';', '\n').replace("\n", " ;\n");
            case 1:
                return text.replace("plain ", "plain").replace("person ", "person").replace("oath ", "oath");
            case 2:
                return text.replace(" ", draw(2) == 0 ? "  " : "\n");
            default:
                return text;
        }
    }

    private void yearCall() {
        int n = draw(3) == 0 ? near(101) : 1 + draw(9);
        int seed = draw(3) == 0 ? near(1000000) : 1 + draw(999999);
        due("drift(" + n + ", " + seed + ")", one.drift(n, seed), model.drift(n, seed));
    }

    private int tongue() {
        return near(Math.max(1, model.count(1)));
    }

    private int word(int tongue) {
        return near(Math.max(1, model.words(tongue)));
    }

    private int person() {
        return near(Math.max(1, model.count(3)));
    }

    private void portCall() {
        int tongue = tongue();
        int word = word(tongue);
        int person = person();
        int what = near(4);
        due("word(" + tongue + ", " + word + ", " + what + ")", one.word(tongue, word, what), model.word(tongue, word, what));
        due("words(" + tongue + ")", one.words(tongue), model.words(tongue));
        due("knows(" + person + ")", one.knows(person), model.knows(person));
    }

    // ---- sayings

    private static int day() {
        return draw(6) == 0 ? near(1000001) : near(8);
    }

    private void meansCall() {
        int day = day();
        int row = row();
        int i = near(4);
        int n = near(draw(2) == 0 ? 7 : 4);
        int k = draw(3) == 0 ? near(4) : draw(2) - 1;
        due("means(" + day + ", " + row + ", " + i + ", " + n + ", " + k + ")", one.means(day, row, i, n, k),
            model.means(day, row, i, n, k));
    }

    /** A row of words, mostly of the day's tongue, and all that it may mean. */
    private void saying() {
        int day = draw(1000001);
        int row = draw(8);
        int n = draw(7);
        int words = Math.max(1, model.words(day % Math.max(1, model.count(1))));
        due("row(" + row + ", 0, " + n + ")", one.row(row, 0, n), model.row(row, 0, n));
        for (int i = 0; i < n; i++) {
            set(row, i, draw(30) == 0 ? words : draw(words));
        }
        for (int k = -1; k < 3; k++) {
            due("means(" + day + ", " + row + ", 0, " + n + ", " + k + ")", one.means(day, row, 0, n, k),
                model.means(day, row, 0, n, k));
        }
        int meaning = Math.max(0, model.means(day, row, 0, n, 0));
        due("dated(" + row + ", 0, " + n + ", " + meaning + ")", one.dated(row, 0, n, meaning),
            model.dated(row, 0, n, meaning));
    }

    private void shortestCall() {
        int day = day();
        int tongue = Math.floorMod(day, Math.max(1, model.count(1)));
        int meaning = 0;
        for (int reading = draw(4); reading > 0; reading--) {
            meaning |= Math.max(0, model.word(tongue, draw(Math.max(1, model.words(tongue))), 1 + draw(2)));
        }
        if (draw(3) == 0) {
            meaning = near(256);
        }
        int what = near(2);
        int most = draw(2) == 0 ? near(9) : 2;
        for (int k = most < 0 ? most : -1; k <= Math.min(most, 8); k++) {
            due("shortest(" + day + ", " + meaning + ", " + what + ", " + k + ")", one.shortest(day, meaning, what, k),
                model.shortest(day, meaning, what, k));
        }
    }

    private void sayableCall() {
        int day = day();
        int what = near(2);
        due("sayable(" + day + ", " + what + ")", one.sayable(day, what), model.sayable(day, what));
    }

    private void bargainCall() {
        int row = row();
        int m = 1 + near(5);
        int k = near(3);
        due("bargain(" + row + ", " + m + ", " + k + ")", one.bargain(row, m, k), model.bargain(row, m, k));
    }

    // ---- people

    private void peopleCall() {
        int day = day();
        int hearer = person();
        int set = draw(3) == 0 ? 255 : near(256);
        due("understands(" + day + ", " + hearer + ", " + set + ")", one.understands(day, hearer, set),
            model.understands(day, hearer, set));
        if (draw(3) == 0) {
            int what = near(2);
            due("week(" + what + ")", one.week(what), model.week(what));
        }
        if (draw(2) == 0) {
            int meaning = draw(2) == 0 ? near(256) : near(8);
            due("letIn(" + meaning + ")", one.letIn(meaning), model.letIn(meaning));
        }
    }

    private void datedCall() {
        int row = row();
        int i = near(4);
        int n = near(draw(2) == 0 ? 7 : 4);
        int meaning = draw(3) == 0 ? near(256) : near(8);
        due("dated(" + row + ", " + i + ", " + n + ", " + meaning + ")", one.dated(row, i, n, meaning),
            model.dated(row, i, n, meaning));
    }

    private void imageCall() {
        int k = near(2);
        if (draw(2) == 0) {
            due("image(" + k + ")", one.image(k), model.image(k));
        } else {
            due("restore(" + k + ")", one.restore(k), model.restore(k));
        }
    }

    // ---- asked

    private void askCall() {
        int tongue = tongue();
        int word = word(tongue);
        int which = near(6);
        int what = near(2);
        due("kind(" + tongue + ", " + word + ")", one.kind(tongue, word), model.kind(tongue, word));
        due("as(" + tongue + ", " + word + ", " + which + ")", one.as(tongue, word, which), model.as(tongue, word, which));
        due("ask(" + tongue + ", " + word + ", " + what + ")", one.ask(tongue, word, what), model.ask(tongue, word, what));
    }

    private void countCall() {
        int what = near(6);
        int i = near(8);
        due("count(" + what + ")", one.count(what), model.count(what));
        due("trace(" + i + ")", one.trace(i), model.trace(i));
    }
}
