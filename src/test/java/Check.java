/** What the tests share: texts in and out of a SoupReader, and a count of the answers that are not as due. */
final class Check {
    static final int NONE = SoupReader.NONE;
    private static int wrong = 0;

    private Check() {
    }

    static void due(String call, int got, int want) {
        due(call, Integer.toString(got), Integer.toString(want));
    }

    static void due(String call, String got, String want) {
        if (!got.equals(want)) {
            wrong++;
            System.out.println(call + " answered " + got + ", due is " + want);
        }
    }

    /** Ends the program, with exit code 1 if an answer was not as due. */
    static void close() {
        System.out.println(wrong == 0 ? "all answers are as due" : wrong + " answers are not as due");
        if (wrong != 0) {
            System.exit(1);
        }
    }

    /** THE TAPE holds the text alone; its characters are bytes. */
    static void tape(SoupReader x, String text) {
        x.end(0);
        for (int i = 0; i < text.length(); i += 20) {
            x.feed(four(text, i), four(text, i + 4), four(text, i + 8), four(text, i + 12), four(text, i + 16));
        }
        x.end(text.length());
    }

    private static int four(String text, int from) {
        int four = 0;
        for (int i = from; i < from + 4; i++) {
            four = four << 8 | (i < text.length() ? text.charAt(i) & 255 : 0);
        }
        return four;
    }

    static int page(SoupReader x, String text) {
        tape(x, text);
        return x.page();
    }

    static int attribute(SoupReader x, int n, String text) {
        tape(x, text);
        return x.attribute(n);
    }

    static int add(SoupReader x, int n, String text) {
        tape(x, text);
        return x.add(n);
    }

    static int text(SoupReader x, int n, String text) {
        tape(x, text);
        return x.text(n);
    }

    static int set(SoupReader x, int n, String text) {
        tape(x, text);
        return x.set(n);
    }

    static int find(SoupReader x, int behind, String text) {
        tape(x, text);
        return x.find(behind);
    }

    /** THE OUT as a text. */
    static String out(SoupReader x) {
        StringBuilder all = new StringBuilder();
        for (int i = 0; x.out(i) != NONE; i++) {
            all.append((char) x.out(i));
        }
        return all.toString();
    }

    static String written(SoupReader x, int n) {
        int count = x.serialise(n);
        String all = out(x);
        due("length of what serialise(" + n + ") wrote", all.length(), count);
        return all;
    }

    static String named(SoupReader x, int n) {
        int count = x.name(n);
        String all = out(x);
        due("length of what name(" + n + ") wrote", all.length(), count);
        return all;
    }

    /** The FAULTS that are told, each as its number, @ and its PLACE. */
    static String faults(SoupReader x) {
        StringBuilder all = new StringBuilder();
        for (int i = 0; x.fault(i, 0) != NONE; i++) {
            all.append(i == 0 ? "" : " ").append(x.fault(i, 0)).append('@').append(x.fault(i, 1));
        }
        return all.toString();
    }

    /** A new page gives the tree (SERIALISED, without THE ROOT's own tags) and the FAULTS. */
    static void read(String page, String tree, String faults) {
        SoupReader x = new SoupReader();
        page(x, page);
        due("tree of " + page, written(x, 0), "<div>" + tree + "</div>");
        due("faults of " + page, faults(x), faults);
        due("faults() of " + page, x.faults(), faults.isEmpty() ? 0 : faults.split(" ").length);
    }

    static String times(int count, String piece) {
        return piece.repeat(count);
    }
}
