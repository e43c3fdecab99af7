/** The edges of promises 6 to 10 and 13 to 17; above each test stands the sentence that it tests. */
public final class CallEdgesTest {
    private static final int LEAST = Integer.MIN_VALUE;
    private static final int GREATEST = Integer.MAX_VALUE;
    private static final int[] NO_NODES = {-1, -2, 119, 120, 121, 1 << 16, LEAST, LEAST + 1, GREATEST};
    private static final String[] EMPTY_TAGS = {"br", "hr", "img", "input"};
    private static final String FULL = Check.times(400, "x");

    public static void main(String[] args) {
        nodeOfAnotherWhat();
        nodeOfNoNode();
        nodeAtItsGreatest();
        nodeOfOneThatWent();
        kidOfNone();
        kidAtItsGreatest();
        nameOfNone();
        nameAtItsEdges();
        attributeOfNone();
        attributeAtItsEdges();
        serialiseOfNone();
        serialiseOfNothingInIt();
        serialiseCutOff();
        serialiseInAStyle();
        addRefused();
        addWithoutRoom();
        textRefused();
        textOfNoBytes();
        textCutOff();
        text20Deep();
        textAt120();
        setRefused();
        setInPlaceOrLast();
        setItsFirst60();
        setWrong();
        removeRefused();
        removeWithAllInIt();
        findBehind();
        findNone();
        Check.close();
    }

    /** 1 ul, 2 li, 3 TEXT, 4 b, 5 TEXT, 6 li, 7 br */
    private static Soup example() {
        Soup x = new Soup();
        Check.page(x, "<ul id=u k><li>one<b>two!</b></li><li><br a=1 b=2 c=3 d=4></ul>");
        return x;
    }

    /** 120 NODES: a b and 118 br; they lie in THE ROOT. */
    private static Soup fullTree() {
        Soup x = new Soup();
        Check.due("a full tree", Check.page(x, "<b></b>" + Check.times(118, "<br>")), 120);
        return x;
    }

    /** NODE n lies n deep, up to 20. */
    private static Soup deepTree() {
        Soup x = new Soup();
        Check.due("a deep tree", Check.page(x, Check.times(20, "<b>")), 21);
        return x;
    }

    /** "NONE if there is none such ..., or for another what." */
    private static void nodeOfAnotherWhat() {
        Soup x = example();
        for (int n = 0; n < 9; n++) {
            for (int what : new int[] {-1, 7, 8, -2, 17, LEAST, GREATEST}) {
                Check.due("node(" + n + ", " + what + ")", x.node(n, what), -1);
            }
        }
    }

    private static void noNode(Soup x, int n) {
        for (int what = -1; what < 8; what++) {
            Check.due("node(" + n + ", " + what + ")", x.node(n, what), -1);
        }
    }

    /** "NONE if there is none such" */
    private static void nodeOfNoNode() {
        Soup x = example();
        noNode(x, 8);
        for (int n : NO_NODES) {
            noNode(x, n);
        }
        noNode(new Soup(), 1);
    }

    /** "1: what it lies in (NONE of THE ROOT)", "3: ... (0 of THE ROOT)", "5: bytes of a TEXT (else 0)", "(THE ROOT 0)" */
    private static void nodeAtItsGreatest() {
        int[] root = {0, -1, 119, 0, 0, 0, 0};
        int[] last = {10, 0, 0, 118, 0, 0, 1};
        Soup x = fullTree();
        for (int what = 0; what < 7; what++) {
            Check.due("node(0, " + what + ") of a full tree", x.node(0, what), root[what]);
            Check.due("node(119, " + what + ") of a full tree", x.node(119, what), last[what]);
        }
        noNode(x, 120);
        Check.due("the deepest", deepTree().node(20, 6), 20);
        Check.due("what that lies in", deepTree().node(20, 1), 19);
        Soup y = new Soup();
        Check.page(y, "<b a b c d>" + FULL + "</b>");
        Check.due("the most ATTRIBUTES", y.node(1, 4), 4);
        Check.due("no bytes of an ELEMENT", y.node(1, 5), 0);
        Check.due("no ATTRIBUTES of a TEXT", y.node(2, 4), 0);
        Check.due("the most bytes", y.node(2, 5), 400);
        Check.due("nothing in a TEXT", y.node(2, 2), 0);
    }

    /** "(one that went, too)" */
    private static void nodeOfOneThatWent() {
        Soup x = example();
        x.remove(2);
        for (int n : new int[] {2, 3, 4, 5}) {
            noNode(x, n);
            Check.due("kid(" + n + ", 0)", x.kid(n, 0), -1);
            Check.due("name(" + n + ")", x.name(n), -1);
            Check.due("serialise(" + n + ")", x.serialise(n), -1);
            Check.due("attribute of " + n, Check.attribute(x, n, "id"), -1);
            Check.due("add in " + n, Check.add(x, n, "b"), -1);
            Check.due("text in " + n, Check.text(x, n, "t"), -1);
            Check.due("set of " + n, Check.set(x, n, "a=1"), -1);
            Check.due("remove(" + n + ")", x.remove(n), -1);
            Check.due("find behind " + n, Check.find(x, n, "br"), -1);
        }
        Check.due("which is the next one now", x.node(6, 3), 0);
        Check.text(x, 0, "t");
        noNode(x, 6);
        noNode(x, 7);
        Soup y = example();
        Check.page(y, "t");
        noNode(y, 2);
    }

    /** "The i-th that lies in a NODE, from 0 on; NONE if there is none such." */
    private static void kidOfNone() {
        Soup x = example();
        for (int i : new int[] {2, 3, -1, -2, LEAST, GREATEST}) {
            Check.due("kid(1, " + i + ")", x.kid(1, i), -1);
        }
        Check.due("kid(1, 0)", x.kid(1, 0), 2);
        Check.due("kid(1, 1)", x.kid(1, 1), 6);
        Check.due("of a TEXT", x.kid(3, 0), -1);
        Check.due("of an EMPTY TAG", x.kid(7, 0), -1);
        Check.due("of a new object", new Soup().kid(0, 0), -1);
        for (int n : NO_NODES) {
            Check.due("kid(" + n + ", 0)", x.kid(n, 0), -1);
            Check.due("kid(" + n + ", -1)", x.kid(n, -1), -1);
        }
    }

    /** the same, of as many as there can be */
    private static void kidAtItsGreatest() {
        Soup x = fullTree();
        for (int i = 0; i < 119; i++) {
            Check.due("kid(0, " + i + ")", x.kid(0, i), i + 1);
        }
        Check.due("kid(0, 119)", x.kid(0, 119), -1);
        Check.due("kid(0, 120)", x.kid(0, 120), -1);
    }

    /** "NONE if there is no such NODE." */
    private static void nameOfNone() {
        Soup x = example();
        x.name(3);
        for (int n : NO_NODES) {
            Check.due("name(" + n + ")", x.name(n), -1);
        }
        Check.due("name(8)", x.name(8), -1);
        Check.due("nothing is written", Check.out(x), "one");
    }

    /** "The NAME of an ELEMENT's TAG, or the bytes of a TEXT" */
    private static void nameAtItsEdges() {
        Soup x = new Soup();
        Check.page(x, "<q>t</q><abcdefghi>" + FULL + "</abcdefgh>");
        int[] counts = {3, 1, 1, 8, 400};
        String[] names = {"div", "q", "t", "abcdefgh", FULL};
        for (int n = 0; n < names.length; n++) {
            Check.due("name(" + n + ")", x.name(n), counts[n]);
            Check.due("what it wrote", Check.out(x), names[n]);
            Check.due("none behind", x.out(counts[n]), -1);
        }
        Check.page(x, "&lt;&amp;");
        Check.due("a TEXT as it is", Check.named(x, 1), "<&");
    }

    /** "NONE if there is no such NODE or ATTRIBUTE." */
    private static void attributeOfNone() {
        Soup x = example();
        x.name(3);
        for (int n : NO_NODES) {
            Check.refused("attribute", x.again(), n, "id", -1);
        }
        Check.refused("attribute", x.again(), 8, "id", -1);
        Check.refused("attribute", x.again(), 0, "id", -1);
        Check.refused("attribute", x.again(), 3, "id", -1);
        Check.refused("attribute", x.again(), 1, "i", -1);
        Check.refused("attribute", x.again(), 1, "idd", -1);
        Check.refused("attribute", x.again(), 1, "d", -1);
        // another NODE's, and one that its NODE had
        Check.refused("attribute", x.again(), 1, "a", -1);
        Check.page(x, "<ul></ul>");
        Check.refused("attribute", x, 1, "id", -1);
    }

    /** "The VALUE ... written to THE OUT: how many bytes" */
    private static void attributeAtItsEdges() {
        Soup x = new Soup();
        String v60 = Check.times(60, "v");
        Check.page(x, "<b z a=1 b9=" + v60 + " abcdefghi=" + v60 + "w>");
        String[] names = {"z", "a", "b9", "abcdefgh"};
        String[] values = {"", "1", v60, v60};
        for (int i = 0; i < names.length; i++) {
            Check.due("attribute " + names[i], Check.attribute(x, 1, names[i]), values[i].length());
            Check.due("what it wrote", Check.out(x), values[i]);
        }
    }

    /** "NONE if there is no such NODE." */
    private static void serialiseOfNone() {
        Soup x = example();
        x.name(3);
        for (int n : NO_NODES) {
            Check.due("serialise(" + n + ")", x.serialise(n), -1);
        }
        Check.due("serialise(8)", x.serialise(8), -1);
        Check.due("nothing is written", Check.out(x), "one");
    }

    /** "(the last three not of EMPTY TAGS)" */
    private static void serialiseOfNothingInIt() {
        Check.due("THE ROOT alone", Check.written(new Soup(), 0), "<div></div>");
        for (String empty : EMPTY_TAGS) {
            Soup x = new Soup();
            Check.page(x, "<" + empty + " a>");
            Check.due("an EMPTY TAG", Check.written(x, 1), "<" + empty + " a=\"\">");
        }
        Soup x = new Soup();
        Check.page(x, "<b></b><hx></hx>t");
        Check.due("an ELEMENT", Check.written(x, 1), "<b></b>");
        Check.due("of other", Check.written(x, 2), "<hx></hx>");
        Check.due("a TEXT", Check.written(x, 3), "t");
        Check.due("the deepest", Check.written(deepTree(), 20), "<b></b>");
        Check.due("all of them", Check.written(deepTree(), 0),
            "<div>" + Check.times(20, "<b>") + Check.times(20, "</b>") + "</div>");
        Check.due("a full tree", fullTree().serialise(0), "<div></div><b></b>".length() + 118 * 4);
    }

    /** "how many bytes, at most 8000 (what is beyond is cut off)" */
    private static void serialiseCutOff() {
        Soup x = new Soup();
        String b = "<b>" + Check.times(400, "&quot;") + "</b>";
        for (int n = 1; n <= 5; n += 2) {
            Check.add(x, 0, "b");
            Check.text(x, n, Check.times(400, "\""));
        }
        Check.add(x, 0, "b");
        Check.text(x, 7, Check.times(390, "x"));
        Check.add(x, 0, "b");
        String head = "<div>" + b + b + b + "<b>" + Check.times(390, "x") + "</b><b>";
        int rest = 8000 - head.length() - "</b></div>".length();
        for (int bytes = rest - 1; bytes <= rest + 11; bytes++) {
            Soup y = x.again();
            Check.text(y, 9, Check.times(bytes, "y"));
            String whole = head + Check.times(bytes, "y") + "</b></div>";
            Check.due("serialise of " + whole.length(), y.serialise(0), Math.min(whole.length(), 8000));
            Check.due("its end", "" + (char) y.out(7998) + (char) y.out(7999), (whole + "\uffff").substring(7998, 8000));
            Check.due("beyond it", y.out(8000), -1);
            Check.due("a part of it is whole", Check.written(y, 9), "<b>" + Check.times(bytes, "y") + "</b>");
        }
        Soup y = x.again();
        Check.text(y, 9, Check.times(400, "\""));
        Check.due("far beyond", Check.written(y, 0), (head + Check.times(400, "&quot;")).substring(0, 8000));
    }

    /** "a TEXT with &lt; &gt; &amp; &quot; for < > & \" (in a style as it is)" */
    private static void serialiseInAStyle() {
        Soup x = new Soup();
        Check.page(x, "<style a='<>&\"'></style>");
        Check.text(x, 1, "<>&\"'");
        Check.due("in a style", Check.written(x, 1), "<style a=\"&lt;&gt;&amp;&quot;\"><>&\"'</style>");
        Check.due("the TEXT alone", Check.written(x, 2), "<>&\"'");
        Check.page(x, "<b a='<>&\"'></b>");
        Check.text(x, 1, "<>&\"'");
        Check.due("in a b", Check.written(x, 1), "<b a=\"&lt;&gt;&amp;&quot;\">&lt;&gt;&amp;&quot;'</b>");
        Check.due("the TEXT alone", Check.written(x, 2), "&lt;&gt;&amp;&quot;'");
        Check.text(x, 0, "<");
        Check.due("in THE ROOT", Check.written(x, 1), "&lt;");
    }

    /** "NONE if there is no such ELEMENT, it is of an EMPTY TAG" */
    private static void addRefused() {
        Soup x = example();
        x.name(3);
        for (int n : NO_NODES) {
            Check.refused("add", x.again(), n, "b", -1);
        }
        Check.refused("add", x.again(), 8, "b", -1);
        Check.refused("add", x.again(), 3, "b", -1);
        Check.refused("add", x.again(), 7, "b", -1);
        for (String empty : EMPTY_TAGS) {
            Soup y = new Soup();
            Check.due("add of " + empty, Check.add(y, 0, empty), 1);
            Check.refused("add", y, 1, "b", -1);
        }
    }

    /** "or there is no room (as for FAULT 6)" */
    private static void addWithoutRoom() {
        Check.refused("add", fullTree(), 0, "b", -1);
        Check.refused("add", fullTree(), 1, "b", -1);
        Soup x = fullTree();
        x.remove(77);
        Check.due("the last room", Check.add(x, 1, "b"), 77);
        Check.refused("add", x, 1, "b", -1);
        Check.refused("add", deepTree(), 20, "b", -1);
        Check.refused("add", deepTree(), 20, "br", -1);
        Soup y = deepTree();
        Check.due("20 deep", Check.add(y, 19, "i"), 21);
        Check.due("so deep", y.node(21, 6), 20);
        Check.due("which", y.node(21, 3), 1);
        Check.refused("add", y, 21, "b", -1);
    }

    /** "NONE, and nothing else, if there is no such ELEMENT, it is of an EMPTY TAG" */
    private static void textRefused() {
        Soup x = example();
        x.name(3);
        for (String text : new String[] {"", "t", FULL + "y", Check.times(2000, "x")}) {
            for (int n : NO_NODES) {
                Check.refused("text", x.again(), n, text, -1);
            }
            Check.refused("text", x.again(), 8, text, -1);
            Check.refused("text", x.again(), 3, text, -1);
            Check.refused("text", x.again(), 7, text, -1);
            for (String empty : EMPTY_TAGS) {
                Soup y = new Soup();
                Check.add(y, 0, empty);
                Check.refused("text", y, 1, text, -1);
            }
        }
    }

    /** "All in an ELEMENT goes, the text comes into it as a TEXT (of no bytes: none" */
    private static void textOfNoBytes() {
        Soup x = example();
        Check.due("of no bytes", Check.text(x, 2, ""), 5);
        Check.due("none", Check.written(x, 2), "<li></li>");
        Check.due("again", Check.text(x, 2, ""), 5);
        Check.due("of one byte", Check.text(x, 2, " "), 6);
        Check.due("its number", x.kid(2, 0), 3);
        Check.due("its byte", Check.named(x, 3), " ");
        Check.due("in its place", Check.text(x, 2, "&lt;"), 6);
        Check.due("one alone", x.node(2, 2), 1);
        Check.due("ENTITIES are not read", Check.named(x, 3), "&lt;");
        Check.due("all in THE ROOT", Check.text(x, 0, ""), 1);
        Check.due("it is alone", Check.written(x, 0), "<div></div>");
        Check.due("still of no bytes", Check.text(x, 0, ""), 1);
        Check.due("a new one", Check.text(x, 0, "t"), 2);
        Check.due("has the least number", x.kid(0, 0), 1);
    }

    /** "what is beyond 400 bytes is cut off" */
    private static void textCutOff() {
        for (int bytes : new int[] {1, 399, 400, 401, 402, 1500, 1501, 2000}) {
            Soup x = new Soup();
            String text = Check.times(bytes, "0123456789").substring(0, bytes);
            Check.due("text of " + bytes, Check.text(x, 0, text), 2);
            Check.due("how many", x.node(1, 5), Math.min(bytes, 400));
            Check.due("the first ones", Check.named(x, 1), text.substring(0, Math.min(bytes, 400)));
            Check.due("it is no FAULT", x.faults(), 0);
        }
    }

    /** "lies 20 deep" */
    private static void text20Deep() {
        Check.refused("text", deepTree(), 20, "t", -1);
        Check.refused("text", deepTree(), 20, "", -1);
        Soup x = deepTree();
        Check.due("19 deep", Check.text(x, 19, "t"), 21);
        Check.due("it lies 20 deep", x.node(20, 6), 20);
        Check.due("18 deep, of no bytes", Check.text(x, 18, ""), 19);
    }

    /** "or has nothing in it while there are 120 NODES (and the text has bytes)" */
    private static void textAt120() {
        Check.refused("text", fullTree(), 1, "t", -1);
        Check.refused("text", fullTree(), 1, FULL + "y", -1);
        Check.due("of no bytes", Check.text(fullTree(), 1, ""), 120);
        Soup x = fullTree();
        x.remove(50);
        Check.due("119 NODES", Check.text(x, 1, "t"), 120);
        Check.due("the number that is free", x.kid(1, 0), 50);
        Check.due("something in it", Check.text(x, 1, "uu"), 120);
        Check.due("its bytes", Check.named(x, 50), "uu");
        Check.due("something in it, of no bytes", Check.text(x, 1, ""), 119);
        Check.due("all in THE ROOT", Check.text(fullTree(), 0, "t"), 2);
    }

    /** "NONE if there is no such ELEMENT, or it would be a fifth one." */
    private static void setRefused() {
        Soup x = example();
        x.name(3);
        for (int n : NO_NODES) {
            Check.refused("set", x.again(), n, "a=1", -1);
        }
        Check.refused("set", x.again(), 8, "a=1", -1);
        Check.refused("set", x.again(), 3, "a=1", -1);
        Check.refused("set", x.again(), 7, "e=5", -1);
        Check.refused("set", x.again(), 7, "aa=", -1);
        Check.due("one of the four", Check.set(x, 7, "d=5"), 4);
    }

    /** "in place of what it was, or as its last one: how many ATTRIBUTES it has" */
    private static void setInPlaceOrLast() {
        Soup x = new Soup();
        Check.add(x, 0, "br");
        for (int n : new int[] {0, 1}) {
            Check.due("the first", Check.set(x, n, "b=1"), 1);
            Check.due("the second", Check.set(x, n, "a=2"), 2);
            Check.due("in place", Check.set(x, n, "b="), 2);
            Check.due("the third", Check.set(x, n, "abcdefgh=3"), 3);
            Check.due("the fourth", Check.set(x, n, "abcdefg=4"), 4);
            Check.due("in place of the last", Check.set(x, n, "abcdefg=44"), 4);
            Check.due("in place of the first", Check.set(x, n, "b=111"), 4);
            Check.due("how many", x.node(n, 4), 4);
        }
        Check.due("in their order", Check.written(x, 1), "<br b=\"111\" a=\"2\" abcdefgh=\"3\" abcdefg=\"44\">");
        Check.page(x, "<b K=1 abcdefghi=2>");
        Check.due("in place of a page's", Check.set(x, 1, "k=3"), 2);
        Check.due("in place of a page's", Check.set(x, 1, "abcdefgh=4"), 2);
        Check.due("both", Check.written(x, 1), "<b k=\"3\" abcdefgh=\"4\"></b>");
    }

    /** "a VALUE (all that is behind; its first 60 bytes)" */
    private static void setItsFirst60() {
        for (int bytes : new int[] {0, 1, 59, 60, 61, 1998}) {
            Soup x = new Soup();
            String value = Check.times(bytes, "0123456789").substring(0, bytes);
            Check.due("set of " + bytes, Check.set(x, 0, "a=" + value), 1);
            Check.due("how many", Check.attribute(x, 0, "a"), Math.min(bytes, 60));
            Check.due("the first ones", Check.out(x), value.substring(0, Math.min(bytes, 60)));
        }
        Soup x = new Soup();
        Check.set(x, 0, "a=" + Check.times(60, "v"));
        Check.set(x, 0, "a==\"'&lt; \n>/");
        Check.attribute(x, 0, "a");
        Check.due("all that is behind", Check.out(x), "=\"'&lt; \n>/");
        Check.set(x, 0, "abcdefgh=" + Check.times(61, "v"));
        Check.due("of a long NAME", Check.attribute(x, 0, "abcdefgh"), 60);
    }

    /** "WRONG at the first byte with which it can't go on so." */
    private static void setWrong() {
        String[] texts = {"", "=", "==", "1=", "A=", "a", "a1", "abcdefgh", "abcdefghi", "abcdefghi=", "a =", "aA=", "a\n=", "a-b=c"};
        int[] places = {0, 0, 0, 0, 0, 1, 2, 8, 8, 8, 1, 1, 1, 1};
        Soup x = example();
        x.name(3);
        for (int i = 0; i < texts.length; i++) {
            Check.refused("set", x.again(), 1, texts[i], -1000 - places[i]);
            Check.refused("set", x.again(), 7, texts[i], -1000 - places[i]);
        }
    }

    /** "NONE if there is none such, or it is THE ROOT." */
    private static void removeRefused() {
        Soup x = example();
        x.name(3);
        String before = Check.state(x);
        for (int n : NO_NODES) {
            Check.due("remove(" + n + ")", x.remove(n), -1);
        }
        Check.due("remove(8)", x.remove(8), -1);
        Check.due("remove(0)", x.remove(0), -1);
        Check.due("all is as it was", Check.state(x), before);
        Check.due("THE ROOT alone", new Soup().remove(0), -1);
        x.remove(1);
        Check.due("THE ROOT alone again", x.remove(0), -1);
        Check.due("it has nothing in it", x.node(0, 2), 0);
    }

    /** "A NODE goes with all in it: how many NODES there are" */
    private static void removeWithAllInIt() {
        Check.due("one with all but THE ROOT", example().remove(1), 1);
        Check.due("one with three in it", example().remove(2), 4);
        Check.due("one with nothing in it", example().remove(7), 7);
        Check.due("a TEXT", example().remove(5), 7);
        Check.due("the deepest", deepTree().remove(20), 20);
        Check.due("all that is deep", deepTree().remove(1), 1);
        Soup x = fullTree();
        Check.due("the last of 120", x.remove(119), 119);
        Check.due("the first of them", x.remove(1), 118);
        Check.due("one between", x.remove(60), 117);
        Check.due("it went", x.remove(60), -1);
        Check.due("the first now", x.kid(0, 0), 2);
        Check.due("the last now", x.kid(0, 115), 118);
        Check.due("none behind", x.kid(0, 116), -1);
        Check.due("which", x.node(61, 3), 58);
        Check.due("the last goes", x.remove(118), 116);
        Check.due("the next one", Check.add(x, 0, "i"), 1);
        Check.due("comes behind what is last now", x.kid(0, 115), 1);
        Check.due("what that is", x.kid(0, 114), 117);
        Soup y = example();
        y.remove(2);
        Check.due("what is left", Check.written(y, 0),
            "<div><ul id=\"u\" k=\"\"><li><br a=\"1\" b=\"2\" c=\"3\" d=\"4\"></li></ul></div>");
    }

    /** "The first ELEMENT, in the tree's order, ... behind a NODE (from THE ROOT on: behind NONE)" */
    private static void findBehind() {
        Soup x = example();
        Check.due("THE ROOT", Check.find(x, -1, "div"), 0);
        Check.due("not behind itself", Check.find(x, 0, "div"), -1);
        Check.due("the first li", Check.find(x, -1, "li"), 2);
        Check.due("behind that", Check.find(x, 2, "li"), 6);
        Check.due("behind a TEXT in it", Check.find(x, 5, "li"), 6);
        Check.due("behind the last", Check.find(x, 6, "li"), -1);
        Check.due("the very last NODE", Check.find(x, 6, "br"), 7);
        Check.due("behind the very last NODE", Check.find(x, 7, "br"), -1);
        Check.due("not what is ahead", Check.find(x, 6, "b"), -1);
        Check.due("the last of 120", Check.find(fullTree(), 118, "br"), 119);
        Soup y = fullTree();
        y.remove(119);
        Check.due("another last of 120", Check.add(y, 0, "hr"), 119);
        Check.due("from THE ROOT to the last of 120", Check.find(y, -1, "hr"), 119);
        Check.due("from THE ROOT and past the last of 120", Check.find(y, -1, "p"), -1);
        Check.due("behind the last of 120", Check.find(fullTree(), 119, "br"), -1);
        Check.due("the deepest", Check.find(deepTree(), 19, "b"), 20);
        // numbers that were free make the order of numbers another one
        x.remove(3);
        Check.due("add", Check.add(x, 6, "li"), 3);
        Check.due("in the tree's order", Check.find(x, 2, "li"), 6);
        Check.due("in the tree's order", Check.find(x, 7, "li"), 3);
        Check.due("in the tree's order", Check.find(x, 3, "li"), -1);
    }

    /** "NONE if there is none such, or no such NODE." */
    private static void findNone() {
        Soup x = example();
        x.name(3);
        for (int n : NO_NODES) {
            if (n != -1) {
                Check.refused("find", x.again(), n, "br", -1);
            }
        }
        Check.refused("find", x.again(), 8, "br", -1);
        for (String name : new String[] {"p", "u", "ull", "l", "id", "one", "other", "text", "brr"}) {
            Check.refused("find", x.again(), -1, name, -1);
        }
        Check.refused("find", x.again(), -1, "b", 4);
        Check.page(x, "<abcdefghi></abcdefgh>");
        Check.due("a NAME of 8", Check.find(x, -1, "abcdefgh"), 1);
        Check.due("a shorter one", Check.find(x, -1, "abcdefg"), -1);
        Check.due("of other, another NAME", Check.find(x, -1, "other"), -1);
    }
}
