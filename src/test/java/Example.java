/** How the class is used; README.md shows this file word for word, and what it prints. */
public final class Example {
    public static void main(String[] args) {
        DayTongues port = new DayTongues();
        String text = "tongue;word plain 1;word double 2 4;tongue;word oath 1 3;person 1;person 3;";
        for (int i = 0; i < text.length(); i++) {
            port.feed(text.charAt(i), 1);               // a byte at a time, or up to eight in one long
        }
        show(port.port());                              // 2: the tongues
        show(port.row(0, 0, 2));                        // 2: row 0 of bytes has two items, 0 and 0
        show(port.set(0, 1, 1));                        // 1: words 0 and 1 now
        show(port.means(0, 0, 0, 2, -1));               // 2: on day 0 the two may mean two sets of parts
        show(port.means(0, 0, 0, 2, 0));                // 3: the least of them, as bits
        show(port.means(1, 0, 0, 2, -1));               // -1000001: day 1 has another tongue, without a word 1
        show(port.status());                            // 0: the latest call with a row that was not refused found nothing
        show(port.shortest(0, 5, 0, -1));               // 2: no saying of fewer words may mean 5
        show(port.shortest(0, 5, 1, -1));               // -1000000: none means 5 alone
        show(port.sayable(0, 0));                       // 8: all that can be meant on day 0
        show(port.dated(0, 0, 2, 3));                   // 1: the letter is in tongue 0, as bits
        show(port.understands(1, 0, 255));              // 1: person 0 needs one interpreter on day 1
        show(port.week(1));                             // 2: person 1, as bits, is enough for all days
        show(port.letIn(8));                            // 0: the tongue in which the new word helps most
        show(port.image(0));                            // 1: kept
        show(port.drift(3, 7));                         // 3: the years gone
        show(port.restore(0));                          // 1: as it was kept
        show(port.ask(0, 0, 0));                        // 2: the size of a plain word
        show(port.trace(0));                            // 11: the body that began first
        show(port.set(0, 2, 1));                        // -1000012: no such place of the row
        show(port.status());                            // 2: the number of that finding
    }

    private static void show(int answer) {
        System.out.println(answer);
    }
}
