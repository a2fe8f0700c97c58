import java.util.ArrayList;
import java.util.List;

/** All that an object answers, as rows of text: two objects that got the same calls have the same rows. */
final class Seen {
    private static final int MOST_ROWS_OF_FACTS = 10;
    // The calls that change the object tell what no other call does, so they come last of all.
    private static final int LAST_CALLS = 24;

    private final CuttingRules x;
    private final List<String> rows = new ArrayList<>();
    private int left;

    private Seen(CuttingRules x, int calls) {
        this.x = x;
        this.left = calls;
    }

    /** Uses up the object, with no more calls than are given. */
    static List<String> of(CuttingRules x, int calls) {
        Seen seen = new Seen(x, calls);
        seen.askFacts();
        seen.askWorths();
        seen.askByChanging();
        return seen.rows;
    }

    private int ask(String call) {
        if (left <= 0) {
            throw new IllegalStateException("no calls are left for " + call);
        }
        left--;
        int answer = Calls.answer(x, call);
        rows.add(call + " = " + answer);
        return answer;
    }

    private void askFacts() {
        for (int what = 0; what <= 9; what++) {
            ask("told(" + what + ")");
        }
        ask("waste()");
        ask("price()");
        askRows("piece", ask("pieces()"), 6);
        askRows("cut", ask("cuts()"), 7);
        askRows("bar", ask("bars()"), 6);
    }

    private void askRows(String name, int count, int facts) {
        for (int i = 0; i < Math.min(count, MOST_ROWS_OF_FACTS); i++) {
            for (int what = 0; what < facts && left > LAST_CALLS; what++) {
                ask(name + "(" + i + ", " + what + ")");
            }
        }
    }

    private void askWorths() {
        int width = ask("told(0)");
        int height = ask("told(1)");
        for (int stage = ask("told(3)"); stage >= 1; stage--) {
            for (int w = 1; w <= width; w++) {
                for (int h = 1; h <= height; h++) {
                    askWorthsOfSize(w, h, width - w, height - h, stage);
                }
            }
        }
    }

    private void askWorthsOfSize(int w, int h, int lastX, int lastY, int stage) {
        for (int px = 0; px <= lastX; px++) {
            for (int py = 0; py <= lastY && left > LAST_CALLS; py++) {
                ask("worth(" + px + ", " + py + ", " + w + ", " + h + ", " + stage + ")");
            }
        }
    }

    private void askByChanging() {
        for (int k = ask("told(6)") - 1; k >= 0; k--) {
            ask("value(" + k + ", 1)");
        }
        for (int k = ask("told(8)") - 1; k >= 0; k--) {
            ask("demand(" + k + ", 0)");
        }
        ask("blade(0)");
        ask("defect(0, 0, 1, 1)");
        ask("kind(1, 1, 1, false)");
        ask("stock(1, 1)");
        ask("order(1, 1)");
        ask("noKinds()");
        ask("noBars()");
    }
}
