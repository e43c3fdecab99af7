/** Promises 13 to 17: add, text, set, remove, find. */
public final class ChangeTest {
    public static void main(String[] args) {
        adds();
        addsWithoutRoom();
        texts();
        textsWithoutRoom();
        sets();
        wrongSets();
        removes();
        leastFreeNumbers();
        finds();
        Check.close();
    }

    private static void adds() {
        Soup x = new Soup();
        Check.due("add", Check.add(x, 0, "p"), 1);
        Check.due("add", Check.add(x, 1, "b"), 2);
        Check.due("add", Check.add(x, 1, "other9"), 3);
        Check.due("add", Check.add(x, 0, "br"), 4);
        Check.due("a p in a p", Check.add(x, 1, "p"), 5);
        Check.due("tree", Check.written(x, 0), "<div><p><b></b><other9></other9><p></p></p><br></div>");
        Check.due("in an EMPTY TAG", Check.add(x, 4, "b"), -1);
        for (String empty : new String[] {"hr", "img", "input"}) {
            Check.due("in " + empty, Check.add(x, Check.add(x, 0, empty), "b"), -1);
        }
        Check.text(x, 2, "t");
        Check.due("in a TEXT", Check.add(x, x.kid(2, 0), "b"), -1);
        Check.due("behind a TEXT", x.node(Check.add(x, 2, "i"), 3), 1);
        for (int n : new int[] {-1, 60, 119, 120, Integer.MIN_VALUE, Integer.MAX_VALUE}) {
            Check.due("in NODE " + n, Check.add(x, n, "b"), -1);
        }
    }

    private static void addsWithoutRoom() {
        Soup x = new Soup();
        for (int n = 0; n < 20; n++) {
            Check.due("deeper", Check.add(x, n, "b"), n + 1);
        }
        Check.due("how deep", x.node(20, 6), 20);
        Check.due("too deep", Check.add(x, 20, "b"), -1);
        for (int n = 21; n < 120; n++) {
            Check.due("add", Check.add(x, 0, "i"), n);
        }
        Check.due("too many", Check.add(x, 0, "i"), -1);
        Check.due("too many", Check.add(x, 119, "i"), -1);
        Check.due("kids", x.node(0, 2), 100);
        Check.due("one goes", x.remove(50), 119);
        Check.due("room again", Check.add(x, 119, "i"), 50);
    }

    private static void texts() {
        Soup x = new Soup();
        Check.page(x, "<p>a<b>c</b>d</p>e");
        Check.due("text(1)", Check.text(x, 1, "n<&>"), 4);
        Check.due("tree", Check.written(x, 0), "<div><p>n&lt;&amp;&gt;</p>e</div>");
        Check.due("its number", x.kid(1, 0), 2);
        Check.due("ENTITIES are not read", Check.text(x, 1, "&lt;"), 4);
        Check.due("its bytes", Check.named(x, 2), "&lt;");
        Check.due("blanks alone", Check.text(x, 1, " \n"), 4);
        Check.due("its bytes", Check.named(x, 2), " \n");
        Check.due("of no bytes", Check.text(x, 1, ""), 3);
        Check.due("tree", Check.written(x, 0), "<div><p></p>e</div>");
        Check.due("of no bytes, again", Check.text(x, 1, ""), 3);
        Check.due("in a TEXT", Check.text(x, 6, "x"), -1);
        Check.due("in a TEXT, of no bytes", Check.text(x, 6, ""), -1);
        Check.due("tree", Check.written(x, 0), "<div><p></p>e</div>");
        Check.due("400 bytes", Check.text(x, 1, Check.times(400, "x")), 4);
        Check.due("400 bytes", x.node(2, 5), 400);
        Check.due("401 bytes", Check.text(x, 1, Check.times(400, "x") + "y"), 4);
        Check.due("cut off", Check.named(x, 2), Check.times(400, "x"));
        Check.due("2000 bytes", Check.text(x, 0, Check.times(2000, "z")), 2);
        Check.due("cut off", Check.named(x, 1), Check.times(400, "z"));
        Check.due("WRONG changes nothing", Check.text(x, 0, "\u0001"), -1000);
        Check.due("as it was", x.node(1, 5), 400);
        Check.due("in THE ROOT, of no bytes", Check.text(x, 0, ""), 1);
        int br = Check.add(x, 0, "br");
        Check.due("in an EMPTY TAG", Check.text(x, br, "x"), -1);
        Check.due("in an EMPTY TAG, of no bytes", Check.text(x, br, ""), -1);
        for (int n : new int[] {-1, 60, 119, 120, Integer.MIN_VALUE, Integer.MAX_VALUE}) {
            Check.due("in NODE " + n, Check.text(x, n, "x"), -1);
            Check.due("in NODE " + n + ", of no bytes", Check.text(x, n, ""), -1);
        }
    }

    private static void textsWithoutRoom() {
        Soup x = new Soup();
        for (int n = 0; n < 20; n++) {
            Check.add(x, n, "b");
        }
        Check.due("20 deep", Check.text(x, 20, "x"), -1);
        Check.due("20 deep, of no bytes", Check.text(x, 20, ""), -1);
        Check.due("19 deep", Check.text(x, 19, "x"), 21);
        Check.due("a TEXT 20 deep", x.node(20, 6), 20);
        for (int n = 21; n < 120; n++) {
            Check.add(x, 0, "i");
        }
        Check.due("no room", Check.text(x, 119, "x"), -1);
        Check.due("no room, of no bytes", Check.text(x, 119, ""), 120);
        Check.due("no room, but its own", Check.text(x, 19, "yy"), 120);
        Check.due("bytes", x.node(20, 5), 2);
        Check.due("its own of no bytes", Check.text(x, 19, ""), 119);
        Check.due("room again", Check.text(x, 119, "x"), 120);
        Check.due("the number that was free", x.kid(119, 0), 20);
    }

    private static void sets() {
        Soup x = new Soup();
        Check.page(x, "<p b=1>t</p><br>");
        Check.due("a new one", Check.set(x, 1, "id=q r=\"&lt;\n"), 2);
        Check.due("tree", Check.written(x, 1), "<p b=\"1\" id=\"q r=&quot;&amp;lt;\n\">t</p>");
        Check.due("in place", Check.set(x, 1, "b=22"), 2);
        Check.due("shorter", Check.set(x, 1, "id=z"), 2);
        Check.due("tree", Check.written(x, 1), "<p b=\"22\" id=\"z\">t</p>");
        Check.due("no VALUE", Check.set(x, 1, "b="), 2);
        Check.due("third", Check.set(x, 1, "abcdefgh=="), 3);
        Check.due("fourth", Check.set(x, 1, "a9=" + Check.times(60, "v")), 4);
        Check.due("fifth", Check.set(x, 1, "e=1"), -1);
        Check.due("in place of the fourth", Check.set(x, 1, "a9=" + Check.times(59, "v") + "wx"), 4);
        Check.due("tree", Check.written(x, 1), "<p b=\"\" id=\"z\" abcdefgh=\"=\" a9=\"" + Check.times(59, "v") + "w\">t</p>");
        Check.due("of a TEXT", Check.set(x, 2, "a=1"), -1);
        Check.due("of an EMPTY TAG", Check.set(x, 3, "a=1"), 1);
        Check.due("of THE ROOT", Check.set(x, 0, "a=1"), 1);
        Check.due("of THE ROOT", x.node(0, 4), 1);
        Check.due("a long VALUE", Check.set(x, 0, "a=" + Check.times(1998, "v")), 1);
        Check.due("its first 60", Check.attribute(x, 0, "a"), 60);
        for (int n : new int[] {-1, 60, 119, 120, Integer.MIN_VALUE, Integer.MAX_VALUE}) {
            Check.due("of NODE " + n, Check.set(x, n, "a=1"), -1);
        }
        x.remove(1);
        Check.add(x, 0, "p");
        Check.due("a new NODE has none", x.node(1, 4), 0);
    }

    private static void wrongSets() {
        String[] texts = {"", "=", "=x", "1=x", "a", "abc", "a b=c", "a =b", "aB=c", "abcdefghi=x", "abcdefgh", "a-=b", " a=b"};
        int[] places = {0, 0, 0, 0, 1, 3, 1, 1, 1, 8, 8, 1, 0};
        for (int i = 0; i < texts.length; i++) {
            Soup x = new Soup();
            Check.due("set of '" + texts[i] + "'", Check.set(x, 0, texts[i]), -1000 - places[i]);
            Check.due("nothing is changed", x.node(0, 4), 0);
            Check.due("set of '" + texts[i] + "' in no NODE", Check.set(x, 50, texts[i]), -1000 - places[i]);
        }
    }

    private static void removes() {
        Soup x = new Soup();
        Check.page(x, "a<p>b<i>c</i>d</p>e<br>");
        Check.due("THE ROOT stays", x.remove(0), -1);
        for (int n : new int[] {-1, 9, 60, 119, 120, Integer.MIN_VALUE, Integer.MAX_VALUE}) {
            Check.due("remove(" + n + ")", x.remove(n), -1);
        }
        Check.due("a TEXT", x.remove(3), 8);
        Check.due("tree", Check.written(x, 0), "<div>a<p><i>c</i>d</p>e<br></div>");
        Check.due("it went", x.remove(3), -1);
        Check.due("the last one", x.remove(6), 7);
        Check.due("tree", Check.written(x, 0), "<div>a<p><i>c</i></p>e<br></div>");
        Check.due("with all in it", x.remove(2), 4);
        Check.due("tree", Check.written(x, 0), "<div>ae<br></div>");
        Check.due("TEXTS do not join", x.node(0, 2), 3);
        Check.due("which one", x.node(7, 3), 1);
        Check.due("the first one", x.remove(1), 3);
        Check.due("the rest", x.kid(0, 0), 7);
        Check.due("the rest", x.remove(8), 2);
        Check.due("the rest", x.remove(7), 1);
        Check.due("tree", Check.written(x, 0), "<div></div>");
        Check.due("again", Check.add(x, 0, "b"), 1);
        Check.due("tree", Check.written(x, 0), "<div><b></b></div>");
    }

    private static void leastFreeNumbers() {
        Soup x = new Soup();
        Check.page(x, "<b></b><b><i></i></b><b></b><b></b>");
        x.remove(5);
        x.remove(2);
        Check.due("the least", Check.add(x, 0, "p"), 2);
        Check.due("the next", Check.add(x, 2, "p"), 3);
        Check.due("the next", Check.add(x, 0, "p"), 5);
        Check.due("behind all", Check.add(x, 0, "p"), 6);
        Check.due("tree", Check.written(x, 0), "<div><b></b><b></b><p><p></p></p><p></p><p></p></div>");
        Check.due("how deep", x.node(3, 6), 2);
    }

    private static void finds() {
        Soup x = new Soup();
        // 1 b, 2 i, 3 b, 4 text, 5 text, 6 p, 7 b, 8 xyz, 9 div
        Check.page(x, "<b><i><b>b</b></i>t</b><p><b></b></p><xyz></xyz><div></div>");
        Check.due("from THE ROOT on", Check.find(x, -1, "div"), 0);
        Check.due("behind THE ROOT", Check.find(x, 0, "div"), 9);
        Check.due("behind the last", Check.find(x, 9, "div"), -1);
        Check.due("the first", Check.find(x, -1, "b"), 1);
        Check.due("what lies in it is behind it", Check.find(x, 1, "b"), 3);
        Check.due("out of it", Check.find(x, 3, "b"), 7);
        Check.due("behind a TEXT", Check.find(x, 4, "b"), 7);
        Check.due("none more", Check.find(x, 7, "b"), -1);
        Check.due("another NAME", Check.find(x, 0, "xyz"), 8);
        Check.due("another NAME", Check.find(x, -1, "xy"), -1);
        Check.due("not what is ahead", Check.find(x, 3, "i"), -1);
        for (int n : new int[] {-2, 10, 60, 119, 120, Integer.MIN_VALUE, Integer.MAX_VALUE}) {
            Check.due("behind NODE " + n, Check.find(x, n, "b"), -1);
        }
        x.remove(3);
        Check.due("one that went", Check.find(x, 3, "b"), -1);
        Check.due("it is not found", Check.find(x, 1, "b"), 7);
        Check.due("add", Check.add(x, 8, "b"), 3);
        Check.due("in the tree's order", Check.find(x, -1, "p"), 6);
        Check.due("in the tree's order", Check.find(x, 7, "b"), 3);
    }
}
