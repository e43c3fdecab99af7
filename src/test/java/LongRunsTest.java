import java.util.Arrays;
import java.util.Random;

/**
 * "An object is used for at most 512 calls after it has been made": random runs, always the same ones, of one object's
 * 512 calls, in which any call may come behind any other; every answer is the one that PlainSoup gives.
 */
public final class LongRunsTest {
    private static final int CALLS = 512;
    private static final int RUNS = 6000;
    private static final int MOST_WRONG_RUNS = 10;

    private final Random random;
    private final RandomTexts texts;
    private final SoupReader x = new SoupReader();
    private final PlainSoup plain = new PlainSoup();
    private final StringBuilder told = new StringBuilder();
    private final boolean fullTrees;
    private int calls;
    private boolean wrong;

    private LongRunsTest(long seed) {
        random = new Random(seed);
        texts = new RandomTexts(random);
        fullTrees = random.nextInt(3) == 0;
    }

    public static void main(String[] args) {
        int wrongRuns = 0;
        for (int run = 0; run < RUNS && wrongRuns < MOST_WRONG_RUNS; run++) {
            LongRunsTest test = new LongRunsTest(run);
            test.go();
            wrongRuns += test.wrong ? 1 : 0;
        }
        Check.close();
    }

    private void go() {
        while (calls < CALLS && !wrong) {
            int what = random.nextInt(20);
            if (what < 9) {
                look();
            } else if (what < 18) {
                askOfAText();
            } else {
                tapeAlone();
            }
        }
        if (!wrong) {
            Check.due("calls of a run", calls, CALLS);
        }
    }

    private void same(String call, int got, int want) {
        calls++;
        told.append(call).append(' ');
        if (got != want) {
            wrong = true;
            Check.due("behind " + told + ": call " + calls + ", " + call, got, want);
        }
    }

    /** Calls that take no text. */
    private void look() {
        int n = node();
        int i = random.nextInt(random.nextInt(4) == 0 ? 130 : 6) - 1;
        int what = random.nextInt(random.nextInt(2) == 0 ? 9 : 3) - 1;
        switch (random.nextInt(9)) {
            case 0: same("kid(" + n + ", " + i + ")", x.kid(n, i), plain.kid(n, i)); break;
            case 1: same("name(" + n + ")", x.name(n), plain.name(n)); break;
            case 2: same("serialise(" + n + ")", x.serialise(n), plain.serialise(n)); break;
            case 3: same("serialise(0)", x.serialise(0), plain.serialise(0)); break;
            case 4: same("fault(" + i + ", " + what + ")", x.fault(i, what), plain.fault(i, what)); break;
            case 5: same("faults()", x.faults(), plain.faults()); break;
            case 6: same("out(" + i + ")", x.out(i), plain.out(i)); break;
            case 7: same("remove(" + n + ")", x.remove(n), plain.remove(n)); break;
            default: same("node(" + n + ", " + what + ")", x.node(n, what), plain.node(n, what));
        }
    }

    /** A call that takes a text, behind the feeds that it needs; if there are not so many calls left, a look. */
    private void askOfAText() {
        // a page ends what the changes before it made
        int which = random.nextInt(4) == 0 ? 0 : 1 + random.nextInt(5);
        String text = textFor(which);
        int feeds = (text.length() + 19) / 20;
        if (calls + feeds + 2 > CALLS) {
            look();
            return;
        }
        give(text);
        int n = node();
        switch (which) {
            case 0: same("page()", x.page(), plain.page()); break;
            case 1: same("attribute(" + n + ")", x.attribute(n), plain.attribute(n)); break;
            case 2: same("add(" + n + ")", x.add(n), plain.add(n)); break;
            case 3: same("text(" + n + ")", x.text(n), plain.text(n)); break;
            case 4: same("set(" + n + ")", x.set(n), plain.set(n)); break;
            default: same("find(" + n + ")", x.find(n), plain.find(n));
        }
    }

    private String textFor(int which) {
        boolean good = random.nextInt(4) != 0;
        switch (which) {
            case 0: return fullTrees ? texts.fullPage() : good ? texts.shortPage() : texts.page();
            case 1: return good ? texts.goodKey() : texts.key();
            case 3: return random.nextInt(5) == 0 ? "" : texts.shortPage();
            case 4: return good ? texts.goodSetting() : texts.setting();
            default: return good ? texts.goodName() : texts.name();
        }
    }

    /** Mostly one that there is. */
    private int node() {
        int n = texts.node();
        for (int i = 0; i < 6 && plain.node(n, 0) == Check.NONE; i++) {
            n = texts.node();
        }
        return n;
    }

    /** The text comes behind what tapeAlone() left there. */
    private void give(String text) {
        told.append('[').append(text).append("] ");
        int before = plain.tapeLength();
        for (int i = 0; i < text.length(); i += 20) {
            int[] five = texts.five(text, i);
            same("feed", x.feed(five[0], five[1], five[2], five[3], five[4]), plain.feed(five));
        }
        int n = before + text.length();
        same("end(" + n + ")", x.end(n), plain.end(n));
    }

    /** Bytes that stay on THE TAPE ahead of the next text, and ends that cut off much or nothing. */
    private void tapeAlone() {
        if (random.nextInt(3) == 0) {
            int[] five = texts.five(texts.name(), 0);
            told.append(Arrays.toString(five));
            same("feed", x.feed(five[0], five[1], five[2], five[3], five[4]), plain.feed(five));
        } else {
            int n = random.nextInt(4) == 0 ? random.nextInt(50) - 2 : 0;
            same("end(" + n + ")", x.end(n), plain.end(n));
        }
    }
}
