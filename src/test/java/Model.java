import java.util.ArrayList;
import java.util.List;
import java.util.TreeSet;
import java.util.regex.Matcher;
import java.util.regex.Pattern;

/** The document told once more, plainly and with Java's library: what each call of DayTongues is due to answer. */
final class Model {
    private static final int NONE = Check.NONE, BAD = Check.BAD, STATE = Check.STATE, FULL = Check.FULL;
    private static final int NULL = 1, PLACE = 2, KIND = 3, SIZE = 4, STORE = 5;
    private static final List<String> SORTS = List.of("", "plain", "count", "lent", "double", "oath");
    private static final Pattern TOKEN = Pattern.compile("[a-z]+|[0-9]+|[^ \n]", Pattern.DOTALL);

    private record Row(int lane, int[] items) {
    }

    private record Word(int kind, int[] readings) {
        int common() {
            int parts = 255;
            for (int reading : readings) {
                parts &= reading;
            }
            return parts;
        }
    }

    private record Token(String text, int place) {
        boolean isNumber() {
            return text.matches("[0-9]{1,3}");
        }
    }

    private static final class Port {
        private final List<List<Word>> tongues = new ArrayList<>();
        private final List<Integer> people = new ArrayList<>();
        private int years = 0;

        private Port copy() {
            Port other = new Port();
            for (List<Word> words : tongues) {
                List<Word> copied = new ArrayList<>();
                for (Word word : words) {
                    copied.add(new Word(word.kind(), word.readings().clone()));
                }
                other.tongues.add(copied);
            }
            other.people.addAll(people);
            other.years = years;
            return other;
        }
    }

    private static final class Fault extends Exception {
        private static final long serialVersionUID = 1L;
        private final int number;
        private final int place;

        private Fault(int number, Token token) {
            this.number = number;
            this.place = token.place();
        }
    }

    private final Row[] rows = new Row[8];
    private final Port[] images = new Port[2];
    private final List<Integer> trace = new ArrayList<>();
    private final StringBuilder tape = new StringBuilder();
    private List<Token> tokens = new ArrayList<>();
    private Port port = null;
    private int fault = 0;
    private int status = 0;

    private static boolean in(int v, int least, int most) {
        return v >= least && v <= most;
    }

    private int found(int finding) {
        status = finding;
        return -1000010 - finding;
    }

    private int well(int answer) {
        status = 0;
        return answer;
    }

    // ---- rows

    int row(int row, int lane, int n) {
        if (!in(row, 0, 7) || !in(lane, 0, 2) || n > 40) {
            return BAD;
        }
        if (n < 0) {
            return found(SIZE);
        }
        rows[row] = new Row(lane, new int[n]);
        return well(n);
    }

    int set(int row, int i, int v) {
        if (!in(row, 0, 7)) {
            return BAD;
        }
        if (rows[row] == null) {
            return found(NULL);
        }
        if (!in(i, 0, rows[row].items().length - 1)) {
            return found(PLACE);
        }
        int bits = 8 << rows[row].lane();
        rows[row].items()[i] = v << 32 - bits >> 32 - bits;
        return well(rows[row].items()[i]);
    }

    int copy(int a, int i, int b, int j, int n) {
        if (!in(a, 0, 7) || !in(b, 0, 7)) {
            return BAD;
        }
        if (rows[a] == null || rows[b] == null) {
            return found(NULL);
        }
        if (rows[a].lane() != rows[b].lane()) {
            return found(STORE);
        }
        if (i < 0 || j < 0 || n < 0 || (long) i + n > rows[a].items().length || (long) j + n > rows[b].items().length) {
            return found(PLACE);
        }
        int[] ahead = rows[a].items().clone();
        for (int at = 0; at < n; at++) {
            rows[b].items()[j + at] = ahead[i + at];
        }
        return well(n);
    }

    int drop(int row) {
        if (!in(row, 0, 7)) {
            return BAD;
        }
        if (rows[row] == null) {
            return found(NULL);
        }
        int n = rows[row].items().length;
        rows[row] = null;
        return well(n);
    }

    // ---- ports, years

    int feed(long w, int n) {
        if (!in(n, 1, 8)) {
            return BAD;
        }
        if (tape.length() + n > 500) {
            return FULL;
        }
        for (int shift = 8 * n - 8; shift >= 0; shift -= 8) {
            tape.append((char) (w >>> shift & 255));
        }
        return tape.length();
    }

    int port() {
        tokens = new ArrayList<>();
        Matcher matcher = TOKEN.matcher(tape);
        while (matcher.find()) {
            tokens.add(new Token(matcher.group(), matcher.start()));
        }
        tokens.add(new Token("", tape.length()));
        tape.setLength(0);
        try {
            port = readPort();
            return port.tongues.size();
        } catch (Fault found) {
            fault = found.number;
            return -1000100 - found.place;
        }
    }

    private Token next() {
        return tokens.get(0);
    }

    private Token take(String... texts) throws Fault {
        Token token = next();
        if (!List.of(texts).contains(token.text())) {
            throw new Fault(1, token);
        }
        return tokens.remove(0);
    }

    private int number(int least, int most) throws Fault {
        Token token = next();
        if (!token.isNumber()) {
            throw new Fault(1, token);
        }
        int v = Integer.parseInt(token.text());
        if (!in(v, least, most)) {
            throw new Fault(2, token);
        }
        tokens.remove(0);
        return v;
    }

    private static void room(int has, int most, Token token) throws Fault {
        if (has == most) {
            throw new Fault(3, token);
        }
    }

    private Port readPort() throws Fault {
        Port read = new Port();
        do {
            room(read.tongues.size(), 7, take("tongue"));
            take(";");
            List<Word> words = new ArrayList<>();
            while (next().text().equals("word")) {
                room(words.size(), 8, take("word"));
                words.add(readWord());
            }
            read.tongues.add(words);
        } while (next().text().equals("tongue"));
        while (!next().text().isEmpty()) {
            room(read.people.size(), 8, take("person"));
            read.people.add(number(0, (1 << read.tongues.size()) - 1));
            take(";");
        }
        return read;
    }

    private Word readWord() throws Fault {
        int kind = SORTS.indexOf(take("plain", "count", "lent", "double", "oath").text());
        int least = kind == 4 ? 2 : 1;
        int most = kind >= 4 ? 3 : 1;
        List<Integer> readings = new ArrayList<>();
        while (readings.size() < least || readings.size() < most && next().isNumber()) {
            readings.add(number(1, 255));
        }
        take(";");
        return new Word(kind, readings.stream().mapToInt(i -> i).toArray());
    }

    int fault() {
        return fault;
    }

    int drift(int n, int seed) {
        if (port == null) {
            return STATE;
        }
        if (!in(n, 1, 100) || !in(seed, 1, 999999)) {
            return BAD;
        }
        long x = seed;
        for (int year = 0; year < n; year++) {
            x = x * 16807 % 2147483647;
            List<Word> words = port.tongues.get((int) (x % port.tongues.size()));
            x = x * 16807 % 2147483647;
            if (!words.isEmpty()) {
                int[] readings = words.get((int) (x % words.size())).readings();
                x = x * 16807 % 2147483647;
                int which = (int) (x % readings.length);
                x = x * 16807 % 2147483647;
                int part = (int) Math.pow(2, x % 8);
                if (readings[which] != part) {
                    readings[which] += (readings[which] & part) == 0 ? part : -part;
                }
            }
            port.years++;
        }
        return port.years;
    }

    private boolean isTongue(int tongue) {
        return port != null && in(tongue, 0, port.tongues.size() - 1);
    }

    private boolean isWord(int tongue, int word) {
        return isTongue(tongue) && in(word, 0, port.tongues.get(tongue).size() - 1);
    }

    private boolean isPerson(int person) {
        return port != null && in(person, 0, port.people.size() - 1);
    }

    private Word wordOf(int tongue, int word) {
        return port.tongues.get(tongue).get(word);
    }

    int word(int tongue, int word, int what) {
        if (!isWord(tongue, word) || !in(what, 0, 3)) {
            return BAD;
        }
        int[] readings = wordOf(tongue, word).readings();
        if (what > readings.length) {
            return NONE;
        }
        return what == 0 ? readings.length : readings[what - 1];
    }

    int words(int tongue) {
        return isTongue(tongue) ? port.tongues.get(tongue).size() : BAD;
    }

    int knows(int person) {
        return isPerson(person) ? port.people.get(person) : BAD;
    }

    // ---- sayings

    private static TreeSet<Integer> meant(List<Word> words, int[] said) {
        TreeSet<Integer> sets = new TreeSet<>(List.of(0));
        for (int number : said) {
            TreeSet<Integer> longer = new TreeSet<>();
            for (int reading : words.get(number).readings()) {
                for (int set : sets) {
                    longer.add(set | reading);
                }
            }
            sets = longer;
        }
        return sets;
    }

    private static int told(TreeSet<Integer> sets, int k) {
        if (k == -1) {
            return sets.size();
        }
        return k < sets.size() ? new ArrayList<>(sets).get(k) : NONE;
    }

    private int tongueOf(int day) {
        return day % port.tongues.size();
    }

    private int[] items(int row, int i, int n) {
        int[] taken = new int[n];
        for (int at = 0; at < n; at++) {
            taken[at] = rows[row].items()[i + at];
        }
        return taken;
    }

    private boolean hasPlaces(int row, int i, int n) {
        return i >= 0 && (long) i + n <= rows[row].items().length;
    }

    int means(int day, int row, int i, int n, int k) {
        if (port == null) {
            return STATE;
        }
        if (!in(day, 0, 1000000) || !in(row, 0, 7) || !in(n, 0, 6) || k < -1) {
            return BAD;
        }
        if (rows[row] == null) {
            return found(NULL);
        }
        if (!hasPlaces(row, i, n)) {
            return found(PLACE);
        }
        int[] said = items(row, i, n);
        for (int word : said) {
            if (!isWord(tongueOf(day), word)) {
                return BAD;
            }
        }
        return well(told(meant(port.tongues.get(tongueOf(day)), said), k));
    }

    int shortest(int day, int meaning, int what, int k) {
        if (port == null) {
            return STATE;
        }
        if (!in(day, 0, 1000000) || !in(meaning, 0, 255) || !in(what, 0, 1) || k < -1) {
            return BAD;
        }
        List<Integer> said = shortest(port.tongues.get(tongueOf(day)), meaning, what == 1);
        if (said == null || k >= said.size()) {
            return NONE;
        }
        return k == -1 ? said.size() : said.get(k);
    }

    /** What a word may bring to a saying: its readings, or, if the saying is to be sure, what is sure of it. */
    private static int[] brought(Word word, int meaning, boolean sure) {
        if (!sure) {
            return word.readings();
        }
        for (int reading : word.readings()) {
            if ((reading | meaning) != meaning) {
                return new int[0];
            }
        }
        return new int[] {word.common()};
    }

    /** From the meaning back: from which sets it can be reached by how many words; then forward by the first words. */
    private static List<Integer> shortest(List<Word> words, int meaning, boolean sure) {
        List<boolean[]> reached = new ArrayList<>();
        boolean[] last = new boolean[256];
        last[meaning] = true;
        reached.add(last);
        while (!reached.get(reached.size() - 1)[0]) {
            if (reached.size() > 9) {
                return null;
            }
            boolean[] ahead = new boolean[256];
            for (int set = 0; set < 256; set++) {
                for (Word word : words) {
                    for (int parts : brought(word, meaning, sure)) {
                        ahead[set] |= reached.get(reached.size() - 1)[set | parts];
                    }
                }
            }
            reached.add(ahead);
        }
        List<Integer> said = new ArrayList<>();
        TreeSet<Integer> sets = new TreeSet<>(List.of(0));
        for (int left = reached.size() - 2; left >= 0; left--) {
            TreeSet<Integer> longer = new TreeSet<>();
            for (int number = 0; longer.isEmpty(); number++) {
                for (int parts : brought(words.get(number), meaning, sure)) {
                    for (int set : sets) {
                        if (reached.get(left)[set | parts]) {
                            longer.add(set | parts);
                        }
                    }
                }
                if (!longer.isEmpty()) {
                    said.add(number);
                }
            }
            sets = longer;
        }
        return said;
    }

    private static int said(List<Word> words, boolean sure) {
        int many = 0;
        for (int meaning = 0; meaning < 256; meaning++) {
            int most = 0;
            for (Word word : words) {
                for (int parts : brought(word, meaning, sure)) {
                    most |= (parts | meaning) == meaning ? parts : 0;
                }
            }
            many += most == meaning ? 1 : 0;
        }
        return many;
    }

    int sayable(int day, int what) {
        if (port == null) {
            return STATE;
        }
        return in(day, 0, 1000000) && in(what, 0, 1) ? said(port.tongues.get(tongueOf(day)), what == 1) : BAD;
    }

    int bargain(int row, int m, int k) {
        if (port == null) {
            return STATE;
        }
        if (!in(row, 0, 7) || !in(m, 1, 5) || k < -1) {
            return BAD;
        }
        if (rows[row] == null) {
            return found(NULL);
        }
        List<Integer> items = new ArrayList<>();
        for (int item : rows[row].items()) {
            items.add(item);
        }
        TreeSet<Integer> alike = null;
        for (int saying = 0; saying < m; saying++) {
            if (items.isEmpty()) {
                return found(PLACE);
            }
            int day = items.remove(0);
            if (day < 0) {
                return BAD;
            }
            if (items.isEmpty()) {
                return found(PLACE);
            }
            int n = items.remove(0);
            if (!in(n, 0, 6)) {
                return BAD;
            }
            int[] words = new int[n];
            for (int at = 0; at < n; at++) {
                if (items.isEmpty()) {
                    return found(PLACE);
                }
                words[at] = items.remove(0);
                if (!isWord(tongueOf(day), words[at])) {
                    return BAD;
                }
            }
            TreeSet<Integer> sets = meant(port.tongues.get(tongueOf(day)), words);
            if (alike != null) {
                sets.retainAll(alike);
            }
            alike = sets;
        }
        return well(told(alike, k));
    }

    // ---- people

    int understands(int day, int hearer, int set) {
        if (!isPerson(hearer) || !in(day, 0, 1000000) || !in(set, 0, 255)) {
            return BAD;
        }
        return between(tongueOf(day), hearer, set);
    }

    /** By rounds: behind how many each of the set can stand at the least. */
    private int between(int tongue, int hearer, int set) {
        int[] behind = new int[port.people.size()];
        for (int round = 0; round <= 8; round++) {
            for (int person = 0; person < behind.length; person++) {
                boolean hears = (port.people.get(person) >> tongue & 1) == 1;
                for (int other = 0; other < behind.length && round > 0; other++) {
                    hears |= behind[other] == round && other != hearer && (set >> other & 1) == 1
                        && (port.people.get(other) & port.people.get(person)) != 0;
                }
                if (hears && behind[person] == 0) {
                    behind[person] = round + 1;
                }
            }
        }
        return behind[hearer] == 0 ? NONE : behind[hearer] - 1;
    }

    int week(int what) {
        if (port == null) {
            return STATE;
        }
        if (!in(what, 0, 1)) {
            return BAD;
        }
        for (int n = 0; n <= port.people.size(); n++) {
            for (int set = 0; set < 1 << port.people.size(); set++) {
                if (Integer.bitCount(set) == n && isDealt(set)) {
                    return what == 0 ? n : set;
                }
            }
        }
        return NONE;
    }

    private boolean isDealt(int set) {
        for (int day = 0; day < port.tongues.size(); day++) {
            for (int hearer = 0; hearer < port.people.size(); hearer++) {
                if (between(day, hearer, set) == NONE) {
                    return false;
                }
            }
        }
        return true;
    }

    int letIn(int meaning) {
        if (port == null) {
            return STATE;
        }
        if (!in(meaning, 1, 255)) {
            return BAD;
        }
        int best = NONE;
        int most = Integer.MIN_VALUE;
        for (int tongue = 0; tongue < port.tongues.size(); tongue++) {
            List<Word> words = new ArrayList<>(port.tongues.get(tongue));
            if (words.size() == 8) {
                continue;
            }
            words.add(new Word(1, new int[] {meaning}));
            int grown = said(words, true) - said(port.tongues.get(tongue), true);
            if (grown > most) {
                most = grown;
                best = tongue;
            }
        }
        return best;
    }

    int dated(int row, int i, int n, int meaning) {
        if (port == null) {
            return STATE;
        }
        if (!in(row, 0, 7) || !in(n, 0, 6) || !in(meaning, 0, 255)) {
            return BAD;
        }
        if (rows[row] == null) {
            return found(NULL);
        }
        if (!hasPlaces(row, i, n)) {
            return found(PLACE);
        }
        int[] said = items(row, i, n);
        int most = -1;
        for (int word : said) {
            if (!in(word, 0, 7)) {
                return BAD;
            }
            most = Math.max(most, word);
        }
        int tongues = 0;
        for (int tongue = 0; tongue < port.tongues.size(); tongue++) {
            List<Word> words = port.tongues.get(tongue);
            if (most < words.size() && meant(words, said).contains(meaning)) {
                tongues += 1 << tongue;
            }
        }
        return well(tongues);
    }

    int image(int k) {
        if (!in(k, 0, 1)) {
            return BAD;
        }
        if (port == null) {
            return STATE;
        }
        images[k] = port.copy();
        return 1;
    }

    int restore(int k) {
        if (!in(k, 0, 1)) {
            return BAD;
        }
        if (images[k] == null) {
            return STATE;
        }
        port = images[k].copy();
        return 1;
    }

    // ---- asked

    int kind(int tongue, int word) {
        return isWord(tongue, word) ? wordOf(tongue, word).kind() : BAD;
    }

    int as(int tongue, int word, int kind) {
        if (!isWord(tongue, word) || !in(kind, 0, 5)) {
            return BAD;
        }
        List<List<Integer>> kinds = List.of(List.of(0), List.of(0, 1), List.of(0, 1, 2), List.of(0, 1, 2, 3),
            List.of(0, 4), List.of(0, 4, 5));
        return kinds.get(wordOf(tongue, word).kind()).contains(kind) ? well(word) : found(KIND);
    }

    /** What each kind answers and by which bodies, worked out by hand from the document's BODIES. */
    int ask(int tongue, int word, int what) {
        if (!isWord(tongue, word) || !in(what, 0, 1)) {
            return BAD;
        }
        Word asked = wordOf(tongue, word);
        int many = asked.readings().length;
        int first = asked.readings()[0];
        trace.clear();
        switch (asked.kind()) {
            case 1:
                return what == 0 ? by(1 + word + first, 11, 10, 21, 20) : by(word + first, 21, 20);
            case 2:
                return what == 0 ? by(1 + word + first + 1000, 11, 10, 22, 21, 20) : by(word + first + 1000, 22, 21, 20);
            case 3:
                return what == 0 ? by(-(1 + 2 * (word + first + 1000)), 12, 11, 10, 24, 22, 21, 20)
                    : by(2 * (word + first + 1000), 24, 22, 21, 20);
            case 4:
                return what == 0 ? by(many - (word - asked.common()), 13, 10, 23, 20) : by(word - asked.common(), 23, 20);
            default:
                return what == 0 ? by(2 * (many - (word - asked.common())), 14, 13, 10, 23, 20)
                    : by(word - asked.common(), 23, 20);
        }
    }

    private int by(int answer, int... bodies) {
        for (int body : bodies) {
            trace.add(body);
        }
        return answer;
    }

    int trace(int i) {
        return in(i, 0, Math.min(trace.size(), 16) - 1) ? trace.get(i) : NONE;
    }

    int count(int what) {
        int many = 0;
        switch (what) {
            case 0:
                for (Row row : rows) {
                    many += row == null ? 0 : 1;
                }
                return many;
            case 1:
                return port == null ? 0 : port.tongues.size();
            case 2:
                for (int tongue = 0; isTongue(tongue); tongue++) {
                    many += words(tongue);
                }
                return many;
            case 3:
                return port == null ? 0 : port.people.size();
            case 4:
                return port == null ? 0 : port.years;
            case 5:
                return tape.length();
            default:
                return BAD;
        }
    }

    int status() {
        return status;
    }
}
