import java.util.Random;

/** Random runs of calls, always the same ones: every answer is the one that PlainSoup gives, and nothing is thrown. */
public final class RandomRunsTest {
    private static final int RUNS = 6000;
    private static final int MOST_WRONG_RUNS = 10;

    private final Random random;
    private final RandomTexts texts;
    private final Soup x = new Soup();
    private final PlainSoup plain = new PlainSoup();
    private final StringBuilder calls = new StringBuilder();
    private boolean wrong;

    private RandomRunsTest(long seed) {
        random = new Random(seed);
        texts = new RandomTexts(random);
    }

    public static void main(String[] args) {
        int wrongRuns = 0;
        for (int run = 0; run < RUNS && wrongRuns < MOST_WRONG_RUNS; run++) {
            RandomRunsTest test = new RandomRunsTest(run);
            test.go();
            wrongRuns += test.wrong ? 1 : 0;
        }
        Check.close();
    }

    private void go() {
        boolean changesAlone = random.nextInt(6) == 0;
        for (int i = 0; i < 12 && roomToGoOn() && !wrong; i++) {
            if (random.nextInt(3) == 0) {
                give(random.nextInt(9) == 0 ? texts.fullPage() : texts.page());
                same("page()", x.page(), plain.page());
                lookAtAll();
            }
            for (int k = random.nextInt(12); k > 0 && roomToGoOn(); k--) {
                change(random.nextInt(changesAlone ? 4 : 8));
            }
            lookAtAll();
        }
    }

    /** A text may take a hundred feeds, and a look writes too. */
    private boolean roomToGoOn() {
        return x.left() > 120;
    }

    private void same(String call, int got, int want) {
        if (!call.isEmpty()) {
            calls.append(call).append(' ');
        }
        // the first wrong answer of a run makes others
        if (got != want && !wrong) {
            wrong = true;
            Check.due("behind " + calls + ": " + call, got, want);
        }
    }

    private void give(String text) {
        calls.append('[').append(text).append("] ");
        for (int i = 0; i < text.length(); i += 20) {
            int[] five = texts.five(text, i);
            same("feed", x.feed(five[0], five[1], five[2], five[3], five[4]), plain.feed(five));
        }
        same("end", x.end(text.length()), plain.end(text.length()));
    }

    private void change(int which) {
        int n = texts.node();
        switch (which) {
            case 0:
                give(texts.name());
                same("add(" + n + ")", x.add(n), plain.add(n));
                break;
            case 1:
                int deep = random.nextInt(25);
                give("b");
                same("add(" + deep + ")", x.add(deep), plain.add(deep));
                break;
            case 2:
                give(random.nextInt(5) == 0 ? "" : texts.page());
                same("text(" + n + ")", x.text(n), plain.text(n));
                break;
            case 3:
                give(texts.setting());
                same("set(" + n + ")", x.set(n), plain.set(n));
                break;
            case 4:
                same("remove(" + n + ")", x.remove(n), plain.remove(n));
                break;
            case 5:
                give(texts.name());
                same("find(" + n + ")", x.find(n), plain.find(n));
                break;
            case 6:
                give(texts.key());
                same("attribute(" + n + ")", x.attribute(n), plain.attribute(n));
                sameOut();
                break;
            default:
                fillUp();
        }
    }

    /** Comes near the limits, which single calls seldom reach. */
    private void fillUp() {
        int into = texts.node();
        for (int i = random.nextInt(80); i > 0 && random.nextInt(40) != 0 && roomToGoOn(); i--) {
            give("i");
            same("add(" + into + ")", x.add(into), plain.add(into));
        }
    }

    private void sameOut() {
        int i = 0;
        do {
            if (x.out(i) != plain.out(i)) {
                same("out(" + i + ")", x.out(i), plain.out(i));
            }
            i++;
        } while (plain.out(i - 1) != -1);
    }

    private void lookAtAll() {
        same("faults()", x.faults(), plain.faults());
        for (int i = -1; i < 42; i++) {
            for (int what = -1; what < 3; what++) {
                same("", x.fault(i, what), plain.fault(i, what));
            }
        }
        int n = texts.node();
        same("name(" + n + ")", x.name(n), plain.name(n));
        sameOut();
        for (int k = -1; k < 121; k++) {
            for (int what = random.nextInt(4) - 1; what < 8; what += 2) {
                same("", x.node(k, what), plain.node(k, what));
            }
            int i = random.nextInt(5) - 1;
            same("", x.kid(k, i), plain.kid(k, i));
        }
        n = random.nextInt(3) == 0 ? n : 0;
        same("serialise(" + n + ")", x.serialise(n), plain.serialise(n));
        sameOut();
    }
}
