import java.util.function.Consumer;

/**
 * All that an object answers after a run of calls, and what it shows only later: the characters in the buffer and
 * the stored texts. The run is made again on a new object after some questions, so that none is used for more than
 * 512 calls if the run has at most 200.
 */
final class Whole {
    private static final int QUESTIONS = 300;

    private final Consumer<SharedSyntax> run;
    private final StringBuilder told = new StringBuilder();
    private SharedSyntax x;
    private int left = 0;

    private Whole(Consumer<SharedSyntax> run) {
        this.run = run;
    }

    static String after(Consumer<SharedSyntax> run) {
        Whole whole = new Whole(run);
        whole.tellText();
        whole.tellCounts(-1, 8);
        whole.tellNodes();
        whole.tellBuffer();
        whole.tellStored();
        return whole.told.toString();
    }

    /** The part of it that the present text alone decides. */
    static String treeAfter(Consumer<SharedSyntax> run) {
        Whole whole = new Whole(run);
        whole.tellText();
        whole.tellCounts(0, 3);
        whole.tellNodes();
        return whole.told.toString();
    }

    private SharedSyntax made() {
        SharedSyntax made = new SharedSyntax();
        run.accept(made);
        return made;
    }

    private SharedSyntax ask() {
        if (left == 0) {
            x = made();
            left = QUESTIONS;
        }
        left--;
        return x;
    }

    private void tellText() {
        int length = ask().length();
        told.append("length ").append(length).append(" letters");
        for (int p = -1; p <= length; p++) {
            told.append(' ').append(ask().letter(p)).append('/').append(ask().find(p));
        }
    }

    private void tellCounts(int from, int to) {
        told.append("\n  counts");
        for (int what = from; what <= to; what++) {
            told.append(' ').append(ask().count(what));
        }
        told.append("\n  faults");
        int faults = ask().count(2);
        for (int k = -1; k <= faults; k++) {
            told.append(' ').append(ask().fault(k));
        }
    }

    private void tellNodes() {
        int nodes = ask().count(0);
        for (int k = 0; k < nodes; k++) {
            told.append("\n  node ").append(k).append(':');
            for (int what = -1; what <= 9; what++) {
                told.append(' ').append(ask().node(k, what));
            }
            told.append(" children");
            int children = ask().node(k, 4);
            for (int c = -1; c <= children; c++) {
                told.append(' ').append(ask().child(k, c));
            }
            told.append(' ').append(ask().equal(k, (k + 1) % nodes)).append(ask().equal(k, k));
        }
    }

    private void tellBuffer() {
        SharedSyntax changed = made();
        boolean done = changed.edit(0, changed.length());
        told.append("\n  buffer ").append(done).append(' ').append(Check.text(changed));
    }

    private void tellStored() {
        SharedSyntax back = made();
        for (int i = 0; i < 4; i++) {
            told.append("\n  stored ").append(back.undo()).append(' ').append(Check.text(back));
            told.append(' ').append(back.count(4)).append(' ').append(back.count(5));
        }
    }
}
