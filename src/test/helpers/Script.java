import java.util.ArrayList;
import java.util.List;

/**
 * Runs of calls on new objects, told as text: rows such as "plate(7, 5, 1, 2, 0) = 1", on lines of
 * their own or parted by ';'. A star stands for all numbers from 0 on: "piece(0, *) = 0 0 0 3 2 0".
 * Of each call that is due to be refused, or to answer NONE, it is looked at, too, that nothing has
 * changed: all other answers are those of an object that did not get the call.
 */
final class Script {
    /** A new object, one with something of everything, and one that is full of everything. */
    static final String NEW = "";
    static final String USUAL = """
            plate(4, 4, 1, 2, 0); defect(3, 3, 1, 1); kind(1, 2, 5, true); kind(2, 2, 9, false)
            stock(9, 4); stock(6, 3); order(4, 2); order(3, 1); blade(1)
            """;
    static final String FULL = """
            plate(4, 4, 0, 2, 1)
            defect(3, 0, 1, 1); defect(3, 1, 1, 1); defect(3, 2, 1, 1)
            defect(3, 3, 1, 1); defect(0, 3, 1, 1); defect(1, 3, 1, 1)
            kind(1, 1, 1, false); kind(2, 1, 3, false); kind(1, 2, 4, false); kind(2, 2, 9, false)
            kind(3, 1, 6, true); kind(3, 2, 17, false); kind(2, 3, 18, false); kind(3, 3, 30, true)
            stock(10, 5); stock(7, 3); stock(20, 9)
            order(4, 5); order(3, 3); order(6, 2); order(2, 5)
            """;

    private static final int MOST_CALLS = 512;

    private final CuttingRules x = new CuttingRules();
    private final List<String> made = new ArrayList<>();

    private Script() {
    }

    static void run(String sentence, String rows) {
        Due.sentence(sentence);
        Script script = new Script();
        for (String row : rows.split("[;\n]")) {
            script.row(row.strip());
        }
        Due.holds("a run has " + MOST_CALLS + " calls at most", script.made.size() <= MOST_CALLS);
    }

    /** In each of the three states the call is refused, with each of the numbers in place of its '#'. */
    static void refused(String sentence, String call, String numbers, String answer) {
        for (String state : new String[] {NEW, USUAL, FULL}) {
            refusedIn(state, sentence, call, numbers, answer);
        }
    }

    static void refusedIn(String state, String sentence, String call, String numbers, String answer) {
        for (String number : numbers.split(" ")) {
            run(sentence, state + "\n" + call.replace("#", number) + " = " + answer);
        }
    }

    private void row(String row) {
        if (row.isEmpty()) {
            return;
        }
        int equals = row.indexOf('=');
        String call = equals < 0 ? row : row.substring(0, equals).strip();
        String[] due = equals < 0 ? new String[0] : row.substring(equals + 1).strip().split(" +");
        if (due.length == 0) {
            make(call);
        } else if (call.contains("*")) {
            for (int n = 0; n < due.length; n++) {
                look(call.replace("*", "" + n), Calls.number(due[n]));
            }
        } else {
            look(call, Calls.number(due[0]));
        }
    }

    private int make(String call) {
        made.add(call);
        return Calls.answer(x, call);
    }

    private void look(String call, int due) {
        if (due < 0) {
            changesNothing(call, false);
            changesNothing(call, true);
        }
        Due.is(made + " and " + call, make(call), due);
    }

    /** With asked, the object has worked out its answers ahead of the call, and may still hold them. */
    private void changesNothing(String refused, boolean asked) {
        List<String> due = seen("", asked);
        List<String> found = seen(refused, asked);
        for (int i = 0; i < Math.max(due.size(), found.size()); i++) {
            String was = i < due.size() ? due.get(i) : "no call more";
            String is = i < found.size() ? found.get(i) : "no call more";
            if (!was.equals(is)) {
                Due.holds(made + " and refused " + refused + ", then " + is + "; without it " + was, false);
                return;
            }
        }
    }

    private List<String> seen(String refused, boolean asked) {
        CuttingRules other = new CuttingRules();
        for (String call : made) {
            Calls.answer(other, call);
        }
        if (asked) {
            other.pieces();
            other.price();
        }
        if (!refused.isEmpty()) {
            Calls.answer(other, refused);
        }
        return Seen.of(other, MOST_CALLS - made.size() - 3);
    }
}
