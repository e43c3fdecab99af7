/** Promises 6 to 10: what is told of THE TREE: node, kid, name, attribute, serialise. */
public final class TreeTest {
    private static final int[] STRANGE = {-1, -2, 8, 119, 120, 121, Integer.MIN_VALUE, Integer.MAX_VALUE};

    public static void main(String[] args) {
        nodes();
        noSuchNodes();
        kids();
        tags();
        names();
        attributes();
        attributeTexts();
        serialised();
        cutOff();
        Check.close();
    }

    private static Soup example() {
        Soup x = new Soup();
        // 1 ul, 2 li, 3 text, 4 b, 5 text, 6 li, 7 br
        Check.due("page()", Check.page(x, "<ul id=u k><li>one<b>two!</b></li><li><br a=1 b=2 c=3 d=4></ul>"), 8);
        return x;
    }

    private static void nodes() {
        Soup x = example();
        int[][] due = {
            {0, -1, 1, 0, 0, 0, 0}, {3, 0, 2, 0, 2, 0, 1}, {4, 1, 2, 0, 0, 0, 2}, {17, 2, 0, 0, 0, 3, 3},
            {8, 2, 1, 1, 0, 0, 3}, {17, 4, 0, 0, 0, 4, 4}, {4, 1, 1, 1, 0, 0, 2}, {10, 6, 0, 0, 4, 0, 3},
        };
        for (int n = 0; n < due.length; n++) {
            for (int what = 0; what < 7; what++) {
                Check.due("node(" + n + ", " + what + ")", x.node(n, what), due[n][what]);
            }
            Check.due("node(" + n + ", 7)", x.node(n, 7), -1);
            Check.due("node(" + n + ", -1)", x.node(n, -1), -1);
            Check.due("node(" + n + ", greatest)", x.node(n, Integer.MAX_VALUE), -1);
        }
    }

    private static void noSuchNodes() {
        Soup x = example();
        for (int n : STRANGE) {
            for (int what = -1; what < 8; what++) {
                Check.due("node(" + n + ", " + what + ")", x.node(n, what), -1);
            }
            Check.due("kid(" + n + ", 0)", x.kid(n, 0), -1);
            Check.due("name(" + n + ")", x.name(n), -1);
            Check.due("attribute(" + n + ")", Check.attribute(x, n, "id"), -1);
            Check.due("serialise(" + n + ")", x.serialise(n), -1);
        }
        x.remove(2);
        for (int n = 2; n <= 5; n++) {
            Check.due("node(" + n + ", 0) of one that went", x.node(n, 0), -1);
            Check.due("kid(" + n + ", 0) of one that went", x.kid(n, 0), -1);
            Check.due("name(" + n + ") of one that went", x.name(n), -1);
            Check.due("serialise(" + n + ") of one that went", x.serialise(n), -1);
        }
        Check.due("node(6, 3) behind one that went", x.node(6, 3), 0);
        Check.page(x, "x");
        Check.due("node(2, 0) of the page before", x.node(2, 0), -1);
        Check.due("node(1, 4) of a TEXT that was a ul", x.node(1, 4), 0);
        Check.due("node(0, 2) of a new page", x.node(0, 2), 1);
    }

    private static void kids() {
        Soup x = example();
        int[][] due = {{1}, {2, 6}, {3, 4}, {}, {5}, {}, {7}, {}};
        for (int n = 0; n < due.length; n++) {
            for (int i = 0; i < due[n].length; i++) {
                Check.due("kid(" + n + ", " + i + ")", x.kid(n, i), due[n][i]);
            }
            Check.due("kid beyond the last of " + n, x.kid(n, due[n].length), -1);
            Check.due("kid(" + n + ", -1)", x.kid(n, -1), -1);
            Check.due("kid(" + n + ", least)", x.kid(n, Integer.MIN_VALUE), -1);
            Check.due("kid(" + n + ", greatest)", x.kid(n, Integer.MAX_VALUE), -1);
        }
    }

    private static void tags() {
        String[] names = {"div", "p", "h1", "ul", "li", "form", "span", "a", "b", "i", "br", "hr", "img", "input",
            "button", "style", "other", "bb", "h2", "spa", "z"};
        for (int tag = 0; tag < names.length; tag++) {
            Soup x = new Soup();
            Check.page(x, "<" + names[tag] + ">");
            Check.due("the TAG of " + names[tag], x.node(1, 0), Math.min(tag, 16));
            Check.due("the NAME of " + names[tag], Check.named(x, 1), names[tag]);
            Check.page(x, "<" + names[tag].toUpperCase() + ">");
            Check.due("the TAG of " + names[tag] + " in capitals", x.node(1, 0), Math.min(tag, 16));
            Soup y = new Soup();
            Check.add(y, 0, names[tag]);
            Check.due("the TAG of an added " + names[tag], y.node(1, 0), Math.min(tag, 16));
            boolean empty = tag >= 10 && tag <= 13;
            String whole = "<" + names[tag] + ">" + (empty ? "" : "</" + names[tag] + ">");
            Check.due(names[tag] + " SERIALISED", Check.written(y, 1), whole);
        }
    }

    private static void names() {
        Soup x = new Soup();
        Check.page(x, "<abcdefghij>a&lt;b</abcdefgh><Q9>" + Check.times(400, "y"));
        Check.due("a long NAME", Check.named(x, 1), "abcdefgh");
        Check.due("a TEXT", Check.named(x, 2), "a<b");
        Check.due("a short NAME", Check.named(x, 3), "q9");
        Check.due("a full TEXT", Check.named(x, 4), Check.times(400, "y"));
        Check.due("how many", x.name(4), 400);
        Check.due("of THE ROOT", x.name(0), 3);
    }

    private static void attributes() {
        Soup x = new Soup();
        Check.page(x, "<p a=1 bb='two' c9=\"3 &amp; <>\" abcdefghi>text");
        String[] names = {"a", "bb", "c9", "abcdefgh"};
        String[] values = {"1", "two", "3 & <>", ""};
        for (int i = 0; i < names.length; i++) {
            Check.due("how many of " + names[i], Check.attribute(x, 1, names[i]), values[i].length());
            Check.due("the VALUE of " + names[i], Check.out(x), values[i]);
        }
        Check.due("none such", Check.attribute(x, 1, "b"), -1);
        Check.due("none such", Check.attribute(x, 1, "abcdefg"), -1);
        Check.due("of a TEXT", Check.attribute(x, 2, "a"), -1);
        Check.due("of THE ROOT", Check.attribute(x, 0, "a"), -1);
        Check.set(x, 0, "a=root");
        Check.attribute(x, 0, "a");
        Check.due("of THE ROOT, set", Check.out(x), "root");
    }

    private static void attributeTexts() {
        wrongNames("attribute", 0);
        wrongNames("add", 0);
        wrongNames("find", -1);
        // what is WRONG is so whatever NODE is named
        wrongNames("attribute", 50);
        wrongNames("add", 50);
        wrongNames("find", 50);
    }

    private static void wrongNames(String call, int n) {
        String[] texts = {"", "1", "A", "=", " a", "a ", "aB", "ab-c", "abcdefghi", "abcdefgh9", "abcdefgh ", "a1b2=", "\n",
            "`", "{", "a/", "a:", "a`", "a{", "a\n"};
        int[] places = {0, 0, 0, 0, 0, 1, 1, 2, 8, 8, 8, 4, 0, 0, 0, 1, 1, 1, 1, 1};
        for (int i = 0; i < texts.length; i++) {
            Soup x = new Soup();
            Check.tape(x, texts[i]);
            int got = call.equals("add") ? x.add(n) : call.equals("find") ? x.find(n) : x.attribute(n);
            Check.due(call + " of '" + texts[i] + "'", got, -1000 - places[i]);
            Check.due("NODES behind a WRONG text", x.kid(0, 0), -1);
        }
        String[] good = {"a", "z", "a0", "z9", "abcdefgh", "a2345678"};
        for (String text : good) {
            Soup x = new Soup();
            Check.tape(x, text);
            int got = call.equals("add") ? x.add(n) : call.equals("find") ? x.find(n) : x.attribute(n);
            Check.due(call + " of '" + text + "'", got, call.equals("add") && n == 0 ? 1 : -1);
        }
    }

    private static void serialised() {
        Soup x = example();
        Check.due("of a TEXT", Check.written(x, 3), "one");
        Check.due("of an ELEMENT", Check.written(x, 2), "<li>one<b>two!</b></li>");
        Check.due("of an EMPTY TAG", Check.written(x, 7), "<br a=\"1\" b=\"2\" c=\"3\" d=\"4\">");
        Check.due("of THE ROOT", Check.written(x, 0), "<div><ul id=\"u\" k=\"\"><li>one<b>two!</b></li>"
            + "<li><br a=\"1\" b=\"2\" c=\"3\" d=\"4\"></li></ul></div>");
        Check.page(x, "<p a='<>&\"' b=\"'\">< > & \" ' x");
        Check.due("the four", Check.written(x, 0), "<div><p a=\"&lt;&gt;&amp;&quot;\" b=\"'\">"
            + "&lt; &gt; &amp; &quot; ' x</p></div>");
        Check.page(x, "<style a='<'><>&\"&lt;</style>");
        Check.due("a style", Check.written(x, 0), "<div><style a=\"&lt;\"><>&\"&lt;</style></div>");
        Check.due("a TEXT in a style", Check.written(x, 2), "<>&\"&lt;");
        Check.text(x, 1, "<&>");
        Check.due("a TEXT put into a style", Check.written(x, 1), "<style a=\"&lt;\"><&></style>");
        Check.add(x, 1, "b");
        Check.text(x, 3, "<");
        Check.due("a TEXT in a b in a style", Check.written(x, 1), "<style a=\"&lt;\"><&><b>&lt;</b></style>");
        Check.page(x, "<e 1=2 ?==x \"y>");
        Check.due("strange NAMES", Check.written(x, 1), "<e 1=\"2\" ?=\"=x\" \"y=\"\"></e>");
    }

    private static void cutOff() {
        Soup x = new Soup();
        for (int i = 1; i <= 3; i++) {
            Check.add(x, 0, "b");
            Check.text(x, 2 * i - 1, Check.times(400, "\""));
        }
        String b = "<b>" + Check.times(400, "&quot;") + "</b>";
        String three = "<div>" + b + b + b + "</div>";
        Check.due("below 8000", Check.written(x, 0), three);
        Check.add(x, 0, "b");
        Check.text(x, 7, Check.times(400, "x"));
        Check.add(x, 0, "b");
        Check.text(x, 9, Check.times(349, "x"));
        // 5 + 3 * 2407 + 407 + 356 + 6 is 7995
        Check.due("a little below 8000", x.serialise(0), 7995);
        Check.text(x, 9, Check.times(354, "x"));
        Check.due("8000 just", x.serialise(0), 8000);
        Check.due("ends whole", x.out(7999), '>');
        Check.text(x, 9, Check.times(355, "x"));
        Check.due("8001 are cut off", x.serialise(0), 8000);
        Check.due("the last one that stays", x.out(7999), 'v');
        Check.due("none behind", x.out(8000), -1);
        Check.text(x, 9, Check.times(400, "&"));
        Check.due("cut off in an ENTITY", x.serialise(0), 8000);
        // the TEXT begins at 5 + 3 * 2407 + 407 + 3, and 7999 is 363 behind that
        Check.due("the last one that stays", x.out(7999), "&amp;".charAt(363 % 5));
        Check.due("shorter again", Check.written(x, 10).length(), 2000);
    }
}
