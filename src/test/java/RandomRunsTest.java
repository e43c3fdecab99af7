import java.util.Random;

/** Random runs of calls, always the same ones: every answer is the one that PlainSoup gives, and nothing is thrown. */
public final class RandomRunsTest {
    private static final int RUNS = 6000;
    private static final int MOST_WRONG_RUNS = 10;
    private static final String[] NAMES = {"div", "p", "h1", "ul", "li", "form", "span", "a", "b", "i", "br", "hr", "img",
        "input", "button", "style", "x", "xyz", "B", "LI", "StYle", "stylex", "verylongname", "verylongnaMES", "h2"};
    private static final String[] KEYS = {"a", "b", "c", "d", "e", "id", "ID", "class", "longlonglong", "longlongother",
        "=", "\"", "'", "1", "&lt;", "<"};
    private static final String[] PIECES = {"text", " ", "\n", "&lt;", "&gt;", "&amp;", "&quot;", "&", "&lt", "<", ">", "\"",
        "'", "=", "/", "</", "<!--", "-->", "<!-- c -->", "<!---->", "<!", "--", "</style>", "</style", "a", "Z", "9",
        "<p", "<b x='", "\" y>"};

    private final Random random;
    private final Soup x = new Soup();
    private final PlainSoup plain = new PlainSoup();
    private final StringBuilder calls = new StringBuilder();
    private boolean wrong;

    private RandomRunsTest(long seed) {
        random = new Random(seed);
    }

    public static void main(String[] args) {
        int wrongRuns = 0;
        for (int run = 0; run < RUNS && wrongRuns < MOST_WRONG_RUNS; run++) {
            RandomRunsTest test = new RandomRunsTest(run);
            test.go();
            wrongRuns += test.wrong ? 1 : 0;
        }
        Check.close();
    }

    private void go() {
        int mood = random.nextInt(6);
        for (int i = 0; i < 12 && roomToGoOn() && !wrong; i++) {
            if (random.nextInt(3) == 0) {
                give(randomPage(mood));
                same("page()", x.page(), plain.page());
                lookAtAll();
            }
            for (int k = random.nextInt(12); k > 0 && roomToGoOn(); k--) {
                change(mood);
            }
            lookAtAll();
        }
    }

    /** A text may take a hundred feeds, and a look writes too. */
    private boolean roomToGoOn() {
        return x.left() > 120;
    }

    private void same(String call, int got, int want) {
        if (!call.isEmpty()) {
            calls.append(call).append(' ');
        }
        // the first wrong answer of a run makes others
        if (got != want && !wrong) {
            wrong = true;
            Check.due("behind " + calls + ": " + call, got, want);
        }
    }

    private void give(String text) {
        calls.append('[').append(text).append("] ");
        // what end() cuts off would change the text if it were read
        char behind = "=>;e-'\"a1\0".charAt(random.nextInt(10));
        for (int i = 0; i < text.length(); i += 20) {
            int[] five = new int[5];
            for (int k = i; k < i + 20; k++) {
                five[(k - i) / 4] = five[(k - i) / 4] << 8 | (k < text.length() ? text.charAt(k) : behind);
            }
            same("feed", x.feed(five[0], five[1], five[2], five[3], five[4]), plain.feed(five));
        }
        same("end", x.end(text.length()), plain.end(text.length()));
    }

    private String pick(String[] from) {
        return from[random.nextInt(from.length)];
    }

    private String randomPage(int mood) {
        StringBuilder page = new StringBuilder();
        int pieces = mood == 0 ? 300 : random.nextInt(60);
        for (int i = 0; i < pieces; i++) {
            page.append(randomPiece(mood));
        }
        int most = random.nextInt(20) == 0 ? 2000 : 1500;
        if (random.nextInt(30) == 0) {
            page.insert(random.nextInt(page.length() + 1), (char) random.nextInt(256));
        }
        return page.length() > most ? page.substring(0, most) : page.toString();
    }

    private String randomPiece(int mood) {
        switch (random.nextInt(mood == 1 ? 5 : 8)) {
            case 0:
            case 1:
            case 2:
                return "<" + pick(NAMES) + (random.nextInt(3) == 0 ? randomAttributes() : "") + ">";
            case 3:
                return mood == 1 ? "<x>" : "</" + pick(NAMES) + (random.nextInt(9) == 0 ? randomAttributes() : "") + ">";
            case 4:
                return random.nextInt(mood == 2 ? 3 : 30) == 0 ? "long &amp; ".repeat(random.nextInt(70)) : "t";
            case 5:
                return "</" + pick(NAMES) + ">";
            default:
                return pick(PIECES);
        }
    }

    private String randomAttributes() {
        StringBuilder all = new StringBuilder();
        for (int i = random.nextInt(7); i > 0; i--) {
            all.append(pick(new String[] {" ", " ", "\n", "/", ""})).append(pick(KEYS));
            switch (random.nextInt(6)) {
                case 0: all.append("=").append(randomValue()); break;
                case 1: all.append("='").append(randomValue()).append("> '"); break;
                case 2: all.append("=\"").append(randomValue()).append("/ \""); break;
                case 3: all.append(" = ").append(randomValue()); break;
                default: break;
            }
        }
        return all.toString();
    }

    private String randomValue() {
        return random.nextInt(8) == 0 ? "v&lt;w".repeat(random.nextInt(30)) : pick(new String[] {"", "1", "&quot;", "a/b", "&lt", "X"});
    }

    private int randomNode() {
        int which = random.nextInt(30);
        return which == 0 ? random.nextInt() : which == 1 ? 118 + random.nextInt(4) : random.nextInt(which < 10 ? 6 : 40) - 1;
    }

    private String randomName() {
        switch (random.nextInt(14)) {
            case 0: return pick(PIECES);
            case 1: return "";
            case 2: return pick(KEYS);
            case 3: return "\u007f\u0080\n \t".substring(random.nextInt(5));
            default: return pick(NAMES);
        }
    }

    private void change(int mood) {
        int n = randomNode();
        switch (random.nextInt(mood == 3 ? 4 : 8)) {
            case 0:
                give(randomName());
                same("add(" + n + ")", x.add(n), plain.add(n));
                break;
            case 1:
                int deep = random.nextInt(25);
                give("b");
                same("add(" + deep + ")", x.add(deep), plain.add(deep));
                break;
            case 2:
                give(random.nextInt(5) == 0 ? "" : randomPage(4));
                same("text(" + n + ")", x.text(n), plain.text(n));
                break;
            case 3:
                give((random.nextInt(9) == 0 ? "" : pick(KEYS)) + (random.nextInt(9) == 0 ? "" : "=") + randomValue());
                same("set(" + n + ")", x.set(n), plain.set(n));
                break;
            case 4:
                same("remove(" + n + ")", x.remove(n), plain.remove(n));
                break;
            case 5:
                give(randomName());
                same("find(" + n + ")", x.find(n), plain.find(n));
                break;
            case 6:
                give(random.nextInt(4) == 0 ? randomName() : pick(KEYS));
                same("attribute(" + n + ")", x.attribute(n), plain.attribute(n));
                sameOut();
                break;
            default:
                fillUp();
        }
    }

    /** Comes near the limits, which single calls seldom reach. */
    private void fillUp() {
        int into = randomNode();
        for (int i = random.nextInt(80); i > 0 && random.nextInt(40) != 0 && roomToGoOn(); i--) {
            give("i");
            same("add(" + into + ")", x.add(into), plain.add(into));
        }
    }

    private void sameOut() {
        int i = 0;
        do {
            if (x.out(i) != plain.out(i)) {
                same("out(" + i + ")", x.out(i), plain.out(i));
            }
            i++;
        } while (plain.out(i - 1) != -1);
    }

    private void lookAtAll() {
        same("faults()", x.faults(), plain.faults());
        for (int i = -1; i < 42; i++) {
            for (int what = -1; what < 3; what++) {
                same("", x.fault(i, what), plain.fault(i, what));
            }
        }
        int n = randomNode();
        same("name(" + n + ")", x.name(n), plain.name(n));
        sameOut();
        for (int k = -1; k < 121; k++) {
            for (int what = random.nextInt(4) - 1; what < 8; what += 2) {
                same("", x.node(k, what), plain.node(k, what));
            }
            int i = random.nextInt(5) - 1;
            same("", x.kid(k, i), plain.kid(k, i));
        }
        n = random.nextInt(3) == 0 ? n : 0;
        same("serialise(" + n + ")", x.serialise(n), plain.serialise(n));
        sameOut();
    }
}
