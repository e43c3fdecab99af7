/** What the tests share: texts in and out of a SoupReader, and a count of the answers that are not as due. */
final class Check {
    static final int NONE = SoupReader.NONE;
    private static final int MOST_SECONDS = 300;
    private static int wrong = 0;

    static {
        Thread watch = new Thread(Check::endLate);
        watch.setDaemon(true);
        watch.start();
    }

    private Check() {
    }

    /** A call that does not end fails its test too. */
    private static void endLate() {
        try {
            Thread.sleep(1000L * MOST_SECONDS);
        } catch (InterruptedException e) {
            return;
        }
        System.out.println("not ended within " + MOST_SECONDS + " seconds");
        Runtime.getRuntime().halt(1);
    }

    static void due(String call, int got, int want) {
        due(call, Integer.toString(got), Integer.toString(want));
    }

    static void due(String call, String got, String want) {
        if (!got.equals(want)) {
            wrong++;
            int from = Math.max(0, firstOther(got, want) - 40);
            System.out.println(call + " answered " + piece(got, from) + ", due is " + piece(want, from));
        }
    }

    private static int firstOther(String a, String b) {
        int i = 0;
        while (i < a.length() && i < b.length() && a.charAt(i) == b.charAt(i)) {
            i++;
        }
        return i;
    }

    /** A long text as what stands from there on. */
    private static String piece(String text, int from) {
        if (text.length() <= 500) {
            return text;
        }
        int to = Math.min(text.length(), from + 200);
        return (from == 0 ? "" : "..") + text.substring(from, to) + (to == text.length() ? "" : "..");
    }

    /** Ends the program, with exit code 1 if an answer was not as due. */
    static void close() {
        System.out.println(wrong == 0 ? "all answers are as due" : wrong + " answers are not as due");
        if (wrong != 0) {
            System.exit(1);
        }
    }

    /** THE TAPE holds the text alone; its characters are bytes. */
    static void tape(Soup x, String text) {
        x.end(0);
        for (int i = 0; i < text.length(); i += 20) {
            x.feed(four(text, i), four(text, i + 4), four(text, i + 8), four(text, i + 12), four(text, i + 16));
        }
        x.end(text.length());
    }

    private static int four(String text, int from) {
        int four = 0;
        for (int i = from; i < from + 4; i++) {
            four = four << 8 | (i < text.length() ? text.charAt(i) & 255 : 0);
        }
        return four;
    }

    static int page(Soup x, String text) {
        tape(x, text);
        return x.page();
    }

    static int attribute(Soup x, int n, String text) {
        tape(x, text);
        return x.attribute(n);
    }

    static int add(Soup x, int n, String text) {
        tape(x, text);
        return x.add(n);
    }

    static int text(Soup x, int n, String text) {
        tape(x, text);
        return x.text(n);
    }

    static int set(Soup x, int n, String text) {
        tape(x, text);
        return x.set(n);
    }

    static int find(Soup x, int behind, String text) {
        tape(x, text);
        return x.find(behind);
    }

    /** A call that takes a text, by its name; page() has no n. */
    static int ask(String call, Soup x, int n, String text) {
        tape(x, text);
        return askOfTape(call, x, n);
    }

    /** The same, of the text that is on THE TAPE. */
    static int askOfTape(String call, Soup x, int n) {
        switch (call) {
            case "page": return x.page();
            case "attribute": return x.attribute(n);
            case "add": return x.add(n);
            case "text": return x.text(n);
            case "set": return x.set(n);
            case "find": return x.find(n);
            default: throw new IllegalArgumentException(call);
        }
    }

    /** The call answers so, and behind it all is as it was, but that THE TAPE is empty. */
    static void refused(String call, Soup x, int n, String text, int want) {
        String told = call + " of '" + text + "' in " + n;
        String before = state(x);
        due(told, ask(call, x, n, text), want);
        due("all behind " + told, state(x), before);
        due("end(1) behind " + told, x.end(1), NONE);
    }

    /** All that can be asked for, but THE TAPE. */
    static String state(Soup x) {
        StringBuilder all = new StringBuilder("OUT ").append(out(x)).append(" FAULTS ").append(x.faults());
        all.append(' ').append(faults(x)).append(" NODES");
        for (int n = 0; n < 120; n++) {
            for (int what = 0; what < 7 && x.node(n, 0) != NONE; what++) {
                all.append(what == 0 ? " " + n + ": " : ",").append(x.node(n, what));
            }
        }
        return all.append(' ').append(written(x.again(), 0)).toString();
    }

    /** THE OUT as a text. */
    static String out(Soup x) {
        StringBuilder all = new StringBuilder();
        for (int i = 0; x.out(i) != NONE; i++) {
            all.append((char) x.out(i));
        }
        return all.toString();
    }

    static String written(Soup x, int n) {
        int count = x.serialise(n);
        String all = out(x);
        due("length of what serialise(" + n + ") wrote", all.length(), count);
        return all;
    }

    static String named(Soup x, int n) {
        int count = x.name(n);
        String all = out(x);
        due("length of what name(" + n + ") wrote", all.length(), count);
        return all;
    }

    /** The FAULTS that are told, each as its number, @ and its PLACE. */
    static String faults(Soup x) {
        StringBuilder all = new StringBuilder();
        for (int i = 0; x.fault(i, 0) != NONE; i++) {
            all.append(i == 0 ? "" : " ").append(x.fault(i, 0)).append('@').append(x.fault(i, 1));
        }
        return all.toString();
    }

    /** A new page gives the tree (SERIALISED, without THE ROOT's own tags) and the FAULTS. */
    static void read(String page, String tree, String faults) {
        Soup x = new Soup();
        page(x, page);
        due("tree of " + page, written(x, 0), "<div>" + tree + "</div>");
        due("faults of " + page, faults(x), faults);
        due("faults() of " + page, x.faults(), faults.isEmpty() ? 0 : faults.split(" ").length);
    }

    static String times(int count, String piece) {
        return piece.repeat(count);
    }
}
