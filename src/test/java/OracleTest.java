import java.util.ArrayList;
import java.util.List;
import java.util.TreeSet;

/** Ports drawn by a fixed row of numbers: each answer of promises 13 to 20 found once more by trying all there is. */
public final class OracleTest {
    private static final String[] SORTS = {"plain", "count", "lent", "double", "oath"};

    private static long x = 20261118;

    private final List<List<int[]>> tongues = new ArrayList<>();
    private final List<Integer> known = new ArrayList<>();
    private String text = "";

    public static void main(String[] args) {
        for (int run = 0; run < 150; run++) {
            OracleTest port = new OracleTest(1 + draw(7), 1 + draw(run % 5 == 0 ? 8 : 4), run % 2 == 0 ? 7 : 255);
            port.meanings();
            port.shortest();
            port.sayable();
            port.letIn();
            port.bargains();
            port.understands();
            port.week();
        }
        Check.end();
    }

    private static int draw(int below) {
        x = x * 48271 % 2147483647;
        return (int) (x / 8 % below);
    }

    private OracleTest(int many, int mostWords, int parts) {
        StringBuilder told = new StringBuilder();
        for (int tongue = 0; tongue < many; tongue++) {
            told.append("tongue;");
            List<int[]> words = new ArrayList<>();
            int count = draw(mostWords + 1);
            for (int word = 0; word < count; word++) {
                words.add(addWord(told, draw(5), parts));
            }
            tongues.add(words);
        }
        int people = draw(9);
        for (int person = 0; person < people && told.length() < 485; person++) {
            int knows = draw(1 << many) & (draw(3) == 0 ? -1 : draw(1 << many));
            known.add(knows);
            told.append("person ").append(knows).append(';');
        }
        text = told.toString();
    }

    private static int[] addWord(StringBuilder told, int sort, int parts) {
        int least = sort == 3 ? 2 : 1;
        int[] readings = new int[sort < 3 ? 1 : least + draw(4 - least)];
        told.append("word ").append(SORTS[sort]);
        for (int i = 0; i < readings.length; i++) {
            readings[i] = 1 + draw(parts);
            if (draw(2) == 0) {
                readings[i] = Integer.highestOneBit(readings[i]);
            }
            told.append(' ').append(readings[i]);
        }
        told.append(';');
        return readings;
    }

    private boolean fits() {
        return text.length() <= 500;
    }

    private DayTongues made() {
        return Check.port(text);
    }

    private static TreeSet<Integer> meant(List<int[]> words, int... said) {
        TreeSet<Integer> sets = new TreeSet<>();
        put(words, said, 0, 0, sets);
        return sets;
    }

    private static void put(List<int[]> words, int[] said, int at, int set, TreeSet<Integer> sets) {
        if (at == said.length) {
            sets.add(set);
            return;
        }
        for (int reading : words.get(said[at])) {
            put(words, said, at + 1, set | reading, sets);
        }
    }

    private int[] someWords(int tongue, int n) {
        int[] said = new int[tongues.get(tongue).isEmpty() ? 0 : n];
        for (int i = 0; i < said.length; i++) {
            said[i] = draw(tongues.get(tongue).size());
        }
        return said;
    }

    private void meanings() {
        if (!fits()) {
            return;
        }
        for (int tongue = 0; tongue < tongues.size(); tongue++) {
            DayTongues port = made();
            int[] said = someWords(tongue, draw(7));
            TreeSet<Integer> sets = meant(tongues.get(tongue), said);
            Check.lay(port, 0, 0, said);
            int day = tongue + tongues.size() * draw(1000);
            int k = 0;
            Check.due("means in " + text, port.means(day, 0, 0, said.length, -1), sets.size());
            for (int set : sets) {
                Check.due("means in " + text, port.means(day, 0, 0, said.length, k), set);
                k++;
            }
            int meaning = draw(256);
            Check.due("dated in " + text, port.dated(0, 0, said.length, meaning), dated(said, meaning));
            Check.due("dated in " + text, port.dated(0, 0, said.length, sets.last()), dated(said, sets.last()));
        }
    }

    private int dated(int[] said, int meaning) {
        int found = 0;
        for (int tongue = 0; tongue < tongues.size(); tongue++) {
            boolean words = true;
            for (int word : said) {
                words &= word < tongues.get(tongue).size();
            }
            if (words && meant(tongues.get(tongue), said).contains(meaning)) {
                found |= 1 << tongue;
            }
        }
        return found;
    }

    /** All sayings of up to four words, the shorter first, then by words. */
    private void shortest() {
        if (!fits()) {
            return;
        }
        int tongue = draw(tongues.size());
        List<int[]> words = tongues.get(tongue);
        if (words.size() > 5) {
            return;
        }
        DayTongues port = made();
        for (int turn = 0; turn < 16; turn++) {
            int meaning = turn < 8 ? turn : draw(256);
            for (int what = 0; what <= 1; what++) {
                int[] due = null;
                for (int n = 0; n <= 4 && due == null; n++) {
                    due = firstSaying(words, new int[n], 0, meaning, what == 1);
                }
                int n = port.shortest(tongue, meaning, what, -1);
                if (due == null) {
                    Check.due("shortest is longer in " + text, n == Check.NONE || n > 4 ? 1 : 0, 1);
                    continue;
                }
                Check.due("shortest in " + text, n, due.length);
                for (int k = 0; k < due.length; k++) {
                    Check.due("shortest in " + text, port.shortest(tongue, meaning, what, k), due[k]);
                }
            }
        }
    }

    private static int[] firstSaying(List<int[]> words, int[] said, int at, int meaning, boolean alone) {
        if (at == said.length) {
            TreeSet<Integer> sets = meant(words, said);
            return sets.contains(meaning) && (!alone || sets.size() == 1) ? said : null;
        }
        for (int word = 0; word < words.size(); word++) {
            said[at] = word;
            int[] found = firstSaying(words, said, at + 1, meaning, alone);
            if (found != null) {
                return found;
            }
        }
        return null;
    }

    private void sayable() {
        if (!fits()) {
            return;
        }
        int tongue = draw(tongues.size());
        for (int what = 0; what <= 1; what++) {
            DayTongues port = made();
            int many = 0;
            for (int meaning = 0; meaning < 256; meaning++) {
                int n = port.shortest(tongue, meaning, what, -1);
                if (n != Check.NONE) {
                    many++;
                    Check.due("no more than eight in " + text, n <= 8 ? 1 : 0, 1);
                }
            }
            Check.due("sayable in " + text, port.sayable(tongue, what), many);
        }
    }

    /** The word told once more in the text, tongue by tongue. */
    private void letIn() {
        if (!fits() || text.length() + 15 > 500) {
            return;
        }
        DayTongues port = made();
        for (int turn = 0; turn < 4; turn++) {
            int meaning = 1 + draw(turn < 2 ? 7 : 255);
            int best = Check.NONE;
            int most = Integer.MIN_VALUE;
            for (int tongue = 0; tongue < tongues.size(); tongue++) {
                if (tongues.get(tongue).size() == 8) {
                    continue;
                }
                DayTongues more = Check.port(withWord(tongue, meaning));
                int grown = more.sayable(tongue, 1) - port.sayable(tongue, 1);
                if (grown > most) {
                    most = grown;
                    best = tongue;
                }
            }
            Check.due("letIn(" + meaning + ") in " + text, port.letIn(meaning), best);
        }
    }

    private String withWord(int tongue, int meaning) {
        int at = 0;
        for (int i = 0; i <= tongue; i++) {
            at = text.indexOf("tongue;", at) + 7;
        }
        return text.substring(0, at) + "word plain " + meaning + ";" + text.substring(at);
    }

    private void bargains() {
        if (!fits()) {
            return;
        }
        DayTongues port = made();
        int m = 1 + draw(5);
        TreeSet<Integer> alike = null;
        List<Integer> items = new ArrayList<>();
        for (int saying = 0; saying < m; saying++) {
            int day = draw(Integer.MAX_VALUE);
            int tongue = day % tongues.size();
            int[] said = someWords(tongue, draw(7));
            items.add(day);
            items.add(said.length);
            for (int word : said) {
                items.add(word);
            }
            TreeSet<Integer> sets = meant(tongues.get(tongue), said);
            if (alike == null) {
                alike = sets;
            }
            alike.retainAll(sets);
        }
        int[] row = new int[items.size()];
        for (int i = 0; i < row.length; i++) {
            row[i] = items.get(i);
        }
        Check.lay(port, 7, 2, row);
        Check.due("bargain in " + text, port.bargain(7, m, -1), alike.size());
        int k = 0;
        for (int set : alike) {
            Check.due("bargain in " + text, port.bargain(7, m, k), set);
            k++;
        }
    }

    private void understands() {
        if (!fits()) {
            return;
        }
        DayTongues port = made();
        for (int turn = 0; turn < 60 && !known.isEmpty(); turn++) {
            int day = draw(1000001);
            int hearer = draw(known.size());
            int set = turn < 20 ? 255 : draw(256);
            Check.due("understands(" + day + ", " + hearer + ", " + set + ") in " + text,
                port.understands(day, hearer, set), fewest(1 << day % tongues.size(), hearer, set));
        }
    }

    /** The fewest of all rows of different people of the set. */
    private int fewest(int heard, int hearer, int set) {
        if ((known.get(hearer) & heard) != 0) {
            return 0;
        }
        int best = Check.NONE;
        for (int person = 0; person < known.size(); person++) {
            if (person != hearer && (set >> person & 1) != 0 && (known.get(person) & heard) != 0) {
                int behind = fewest(known.get(person), hearer, set & ~(1 << person));
                if (behind != Check.NONE && (best == Check.NONE || behind + 1 < best)) {
                    best = behind + 1;
                }
            }
        }
        return best;
    }

    private void week() {
        if (!fits() || known.size() > 5) {
            return;
        }
        int best = Check.NONE;
        for (int n = 0; n <= known.size() && best == Check.NONE; n++) {
            for (int set = 0; set < 1 << known.size() && best == Check.NONE; set++) {
                if (Integer.bitCount(set) == n && isDealt(set)) {
                    best = set;
                }
            }
        }
        DayTongues port = made();
        Check.due("week(0) in " + text, port.week(0), best == Check.NONE ? best : Integer.bitCount(best));
        Check.due("week(1) in " + text, port.week(1), best);
    }

    private boolean isDealt(int set) {
        for (int tongue = 0; tongue < tongues.size(); tongue++) {
            for (int hearer = 0; hearer < known.size(); hearer++) {
                if (fewest(1 << tongue, hearer, set) == Check.NONE) {
                    return false;
                }
            }
        }
        return true;
    }
}
