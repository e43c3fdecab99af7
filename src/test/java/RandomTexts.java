import java.util.Random;

/** Texts and numbers for random runs: mostly such as mean something, near the limits more often than chance would be. */
final class RandomTexts {
    static final int MOODS = 6;
    private static final String[] NAMES = {"div", "p", "h1", "ul", "li", "form", "span", "a", "b", "i", "br", "hr", "img",
        "input", "button", "style", "x", "xyz", "B", "LI", "StYle", "stylex", "verylongname", "verylongnaMES", "h2"};
    private static final String[] KEYS = {"a", "b", "c", "d", "e", "id", "ID", "class", "longlonglong", "longlongother",
        "=", "\"", "'", "1", "&lt;", "<"};
    private static final String[] PIECES = {"text", " ", "\n", "&lt;", "&gt;", "&amp;", "&quot;", "&", "&lt", "<", ">", "\"",
        "'", "=", "/", "</", "<!--", "-->", "<!-- c -->", "<!---->", "<!", "--", "</style>", "</style", "a", "Z", "9",
        "<p", "<b x='", "\" y>"};
    private static final String[] GOOD_NAMES = {"div", "p", "li", "b", "i", "br", "hr", "style", "x", "verylong", "stylex"};
    private static final String[] GOOD_KEYS = {"a", "b", "c", "d", "e", "id", "class", "longlong"};
    private static final String[] VALUES = {"", "1", "&quot;", "a/b", "&lt", "X"};

    private final Random random;
    private final int mood;

    RandomTexts(Random random) {
        this.random = random;
        mood = random.nextInt(MOODS);
    }

    private String pick(String[] from) {
        return from[random.nextInt(from.length)];
    }

    private boolean oneIn(int count) {
        return random.nextInt(count) == 0;
    }

    /** A page of up to 1500 bytes, seldom of up to 2000. */
    String page() {
        return page(mood == 0 ? 300 : random.nextInt(60));
    }

    /** A page that takes few feeds. */
    String shortPage() {
        return page(random.nextInt(6));
    }

    private String page(int pieces) {
        StringBuilder page = new StringBuilder();
        for (int i = 0; i < pieces; i++) {
            page.append(piece());
        }
        int most = oneIn(20) ? 2000 : 1500;
        if (oneIn(30)) {
            page.insert(random.nextInt(page.length() + 1), (char) random.nextInt(256));
        }
        return page.length() > most ? page.substring(0, most) : page.toString();
    }

    private String piece() {
        switch (random.nextInt(mood == 1 ? 5 : 8)) {
            case 0:
            case 1:
            case 2:
                return "<" + pick(NAMES) + (oneIn(3) ? attributes() : "") + ">";
            case 3:
                return mood == 1 ? "<x>" : "</" + pick(NAMES) + (oneIn(9) ? attributes() : "") + ">";
            case 4:
                return oneIn(mood == 2 ? 3 : 30) ? "long &amp; ".repeat(random.nextInt(70)) : "t";
            case 5:
                return "</" + pick(NAMES) + ">";
            default:
                return pick(PIECES);
        }
    }

    private String attributes() {
        StringBuilder all = new StringBuilder();
        for (int i = random.nextInt(7); i > 0; i--) {
            all.append(pick(new String[] {" ", " ", "\n", "/", ""})).append(pick(KEYS));
            switch (random.nextInt(6)) {
                case 0: all.append("=").append(value()); break;
                case 1: all.append("='").append(value()).append("> '"); break;
                case 2: all.append("=\"").append(value()).append("/ \""); break;
                case 3: all.append(" = ").append(value()); break;
                default: break;
            }
        }
        return all.toString();
    }

    private String value() {
        return oneIn(8) ? "v&lt;w".repeat(random.nextInt(30)) : pick(VALUES);
    }

    /** A page that fills THE TREE, or almost, in one row or as deep as it goes. */
    String fullPage() {
        String row = (oneIn(2) ? "<br>" : "<br a=1>").repeat(110 + random.nextInt(12));
        return "<b>".repeat(random.nextInt(oneIn(2) ? 3 : 23)) + row + shortPage();
    }

    /** A TAG's NAME that is one. */
    String goodName() {
        return pick(GOOD_NAMES);
    }

    /** An ATTRIBUTE's NAME that is one. */
    String goodKey() {
        return pick(GOOD_KEYS);
    }

    /** What a call that wants a NAME is given. */
    String name() {
        switch (random.nextInt(14)) {
            case 0: return pick(PIECES);
            case 1: return "";
            case 2: return pick(KEYS);
            case 3: return "\u007f\u0080\n \t".substring(random.nextInt(5));
            default: return pick(NAMES);
        }
    }

    /** What attribute() is given. */
    String key() {
        return oneIn(4) ? name() : pick(KEYS);
    }

    String goodSetting() {
        return goodKey() + "=" + value();
    }

    /** What set() is given. */
    String setting() {
        return (oneIn(9) ? "" : pick(KEYS)) + (oneIn(9) ? "" : "=") + value();
    }

    /** A number that is often a NODE's. */
    int node() {
        int which = random.nextInt(30);
        return which == 0 ? random.nextInt() : which == 1 ? 118 + random.nextInt(4) : random.nextInt(which < 10 ? 6 : 40) - 1;
    }

    /** The bytes of a feed, from a place of the text on; what end() will cut off would change the text if it were read. */
    int[] five(String text, int from) {
        char behind = "=>;e-'\"a1\0".charAt(random.nextInt(10));
        int[] five = new int[5];
        for (int i = from; i < from + 20; i++) {
            int k = (i - from) / 4;
            five[k] = five[k] << 8 | (i < text.length() ? text.charAt(i) : behind);
        }
        return five;
    }
}
