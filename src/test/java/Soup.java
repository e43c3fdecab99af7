import java.util.ArrayList;
import java.util.Arrays;
import java.util.List;

/**
 * A SoupReader for tests that look at much: the document promises 512 calls of an object and no more, so a new object
 * takes over when one has had them, behind the same calls as the first, but for those that only look.
 */
final class Soup {
    private static final int MOST_CALLS = 512;

    private enum Call { FEED, END, PAGE, NAME, ATTRIBUTE, SERIALISE, ADD, TEXT, SET, REMOVE, FIND }

    /** A call that changes something (THE TAPE and THE OUT too), and what it answered. */
    private static final class Change {
        final Call call;
        final int[] with;
        int answer;

        Change(Call call, int[] with) {
            this.call = call;
            this.with = with;
        }

        int make(SoupReader x) {
            switch (call) {
                case FEED: return x.feed(with[0], with[1], with[2], with[3], with[4]);
                case END: return x.end(with[0]);
                case PAGE: return x.page();
                case NAME: return x.name(with[0]);
                case ATTRIBUTE: return x.attribute(with[0]);
                case SERIALISE: return x.serialise(with[0]);
                case ADD: return x.add(with[0]);
                case TEXT: return x.text(with[0]);
                case SET: return x.set(with[0]);
                case REMOVE: return x.remove(with[0]);
                default: return x.find(with[0]);
            }
        }
    }

    private final List<Change> changes;
    private SoupReader reader;
    private int calls;

    Soup() {
        changes = new ArrayList<>();
        reader = new SoupReader();
    }

    private Soup(List<Change> changes) {
        this.changes = new ArrayList<>(changes);
        takeOver();
    }

    /** Another one behind the same calls: what is asked of it leaves this one alone. */
    Soup again() {
        return new Soup(changes);
    }

    /** How many changes there may still be. */
    int left() {
        return MOST_CALLS - changes.size();
    }

    private void takeOver() {
        reader = new SoupReader();
        for (Change change : changes) {
            int answer = change.make(reader);
            if (answer != change.answer) {
                Check.due("a second time " + change.call + Arrays.toString(change.with), answer, change.answer);
            }
        }
        calls = changes.size();
    }

    private SoupReader next() {
        if (calls == MOST_CALLS) {
            if (changes.size() == MOST_CALLS) {
                throw new IllegalStateException("this test changes more than the document promises for");
            }
            takeOver();
        }
        calls++;
        return reader;
    }

    private int change(Call call, int... with) {
        Change change = new Change(call, with);
        change.answer = change.make(next());
        changes.add(change);
        return change.answer;
    }

    int feed(int a, int b, int c, int d, int e) {
        return change(Call.FEED, a, b, c, d, e);
    }

    int end(int n) {
        return change(Call.END, n);
    }

    int out(int i) {
        return next().out(i);
    }

    int page() {
        return change(Call.PAGE);
    }

    int node(int n, int what) {
        return next().node(n, what);
    }

    int kid(int n, int i) {
        return next().kid(n, i);
    }

    int name(int n) {
        return change(Call.NAME, n);
    }

    int attribute(int n) {
        return change(Call.ATTRIBUTE, n);
    }

    int serialise(int n) {
        return change(Call.SERIALISE, n);
    }

    int fault(int i, int what) {
        return next().fault(i, what);
    }

    int faults() {
        return next().faults();
    }

    int add(int n) {
        return change(Call.ADD, n);
    }

    int text(int n) {
        return change(Call.TEXT, n);
    }

    int set(int n) {
        return change(Call.SET, n);
    }

    int remove(int n) {
        return change(Call.REMOVE, n);
    }

    int find(int behind) {
        return change(Call.FIND, behind);
    }
}
