/** Promise 5: page, and what the Terms say of SIGNS and of how THE TREE is built. */
public final class PageTest {
    public static void main(String[] args) {
        lengths();
        whatStays();
        entities();
        tagSigns();
        attributeSigns();
        values();
        comments();
        styles();
        texts();
        blocksCloseP();
        items();
        anchors();
        endTags();
        numbers();
        Check.close();
    }

    private static void lengths() {
        Soup x = new Soup();
        Check.due("an empty page", Check.page(x, ""), 1);
        Check.due("NODES", Check.page(x, "<p>a<b>c</b>d"), 6);
        Check.due("1500 bytes", Check.page(x, Check.times(375, "</x>")), 1);
        Check.due("FAULTS of it", x.faults(), 375);
        Check.due("1501 bytes", Check.page(x, Check.times(1501, "x")), -1);
        Check.due("FAULTS stay", x.faults(), 375);
        Check.due("2000 bytes", Check.page(x, Check.times(2000, "x")), -1);
    }

    private static void whatStays() {
        Soup x = new Soup();
        Check.page(x, "<b>stays");
        Check.page(x, "gone\u0001");
        Check.due("behind a WRONG page", Check.written(x, 0), "<div><b>stays</b></div>");
        Check.due("FAULTS behind a WRONG page", Check.faults(x), "4@0");
        Check.page(x, Check.times(501, "<p>"));
        Check.due("behind a page too long", Check.written(x, 0), "<div><b>stays</b></div>");
        Check.due("FAULTS behind a page too long", Check.faults(x), "4@0");
        Check.set(x, 0, "a=b");
        Check.due("the next page", Check.page(x, "new"), 2);
        Check.due("nothing is left of the page before", Check.written(x, 0), "<div>new</div>");
        Check.due("no FAULT either", x.faults(), 0);
        Check.due("nor a NODE", x.node(2, 0), -1);
        Check.page(x, "");
        Check.due("an empty page behind another", Check.written(x, 0), "<div></div>");
    }

    /** A page of text alone gives a TEXT of these bytes. */
    private static void plain(String page, String want) {
        Soup x = new Soup();
        Check.page(x, page);
        Check.due("TEXT of " + page, Check.named(x, 1), want);
        Check.due("NODES of " + page, x.node(0, 2), 1);
        Check.due("faults of " + page, x.faults(), 0);
    }

    private static void entities() {
        plain("&lt;&gt;&amp;&quot;", "<>&\"");
        plain("a&lt;b&gt;c&amp;d&quot;e", "a<b>c&d\"e");
        plain("&amp;lt;&&amp;&lt", "&lt;&&&lt");
        plain("&LT;&Gt; &lt ; &apos; & &", "&LT;&Gt; &lt ; &apos; & &");
        plain("&&lt;", "&<");
        plain("&am<!---->p;", "&amp;");
        plain("&quot", "&quot");
        plain("&lt;b&gt;", "<b>");
    }

    private static void tagSigns() {
        plain("a < b", "a < b");
        plain("1<2", "1<2");
        plain("<1>", "<1>");
        plain("</1>", "</1>");
        plain("</>", "</>");
        plain("< /p>", "< /p>");
        plain("</ p>", "</ p>");
        plain("<//p>", "<//p>");
        plain("<!x>", "<!x>");
        plain("<!-x->", "<!-x->");
        plain("<?x>", "<?x>");
        plain("<", "<");
        plain("</", "</");
        plain("<!", "<!");
        plain("<!-", "<!-");
        plain("<@>", "<@>");
        plain("<[>", "<[>");
        plain("<`>", "<`>");
        plain("<{>", "<{>");
        plain(">", ">");
        Check.read("<<b>x</b>", "&lt;<b>x</b>", "");
        Check.read("<B>x</b><aZ9>y</Az9>", "<b>x</b><az9>y</az9>", "");
        Check.read("<Zz>y</zZ>", "<zz>y</zz>", "");
        Check.read("<abcdefghij>x</abcdefghZZZ>", "<abcdefgh>x</abcdefgh>", "");
        Check.read("<b/>x</b/>", "<b>x</b>", "");
        Check.read("<br/>x", "<br>x", "");
        Check.read("<b\n>x</b\n >", "<b>x</b>", "");
        Check.read("<h1>x</h1><h12>y</h12>", "<h1>x</h1><h12>y</h12>", "");
        Check.read("<stylesheet>&lt;</stylesheet>", "<styleshe>&lt;</styleshe>", "");
    }

    /** A TAG of an x with these ATTRIBUTES is written again so. */
    private static void given(String attributes, String want) {
        Check.read("<x" + attributes + "></x>", "<x" + want + "></x>", "");
    }

    private static void attributeSigns() {
        given(" a b c", " a=\"\" b=\"\" c=\"\"");
        given("\na\n b/c//d/ /", " a=\"\" b=\"\" c=\"\" d=\"\"");
        given(" A=B Cd=Ef", " a=\"B\" cd=\"Ef\"");
        given(" abcdefghi=1", " abcdefgh=\"1\"");
        given(" =x", " =x=\"\"");
        given(" ==x", " ==\"x\"");
        given("=x", " =x=\"\"");
        given(" a =b", " a=\"\" =b=\"\"");
        given(" a= b", " a=\"\" b=\"\"");
        given(" a=\nb", " a=\"\" b=\"\"");
        given(" a/=b", " a=\"\" =b=\"\"");
        given(" a=", " a=\"\"");
        given(" a=/", " a=\"/\"");
        given(" a=b/c", " a=\"b/c\"");
        given(" a=b=c", " a=\"b=c\"");
        given(" a='b'c=\"d\"e", " a=\"b\" c=\"d\" e=\"\"");
        given("'a", " 'a=\"\"");
        given("!a<b", " !a<b=\"\"");
        given(" a\"b=c", " a\"b=\"c\"");
        given(" &lt;=1", " &lt;=\"1\"");
        given(" AZ[@=1", " az[@=\"1\"");
        given(" 9=1", " 9=\"1\"");
    }

    private static void values() {
        given(" a=\"x>y\"", " a=\"x&gt;y\"");
        given(" a='x>\"/ \n'", " a=\"x&gt;&quot;/ \n\"");
        given(" a=\"x'y\"", " a=\"x'y\"");
        given(" a=x'y\"z", " a=\"x'y&quot;z\"");
        given(" a=\"\" b=''", " a=\"\" b=\"\"");
        given(" a=&lt;&gt;&amp;&quot; b='&lt;&lt' c=\"&quot;\"", " a=\"&lt;&gt;&amp;&quot;\" b=\"&lt;&amp;lt\" c=\"&quot;\"");
        given(" a=" + Check.times(60, "x"), " a=\"" + Check.times(60, "x") + "\"");
        given(" a=" + Check.times(61, "x"), " a=\"" + Check.times(60, "x") + "\"");
        given(" a='" + Check.times(60, "&lt;") + "&gt;'", " a=\"" + Check.times(60, "&lt;") + "\"");
        given(" a='" + Check.times(59, "x") + "&gt;y'", " a=\"" + Check.times(59, "x") + "&gt;\"");
        given(" a=" + Check.times(100, "x") + " b=c", " a=\"" + Check.times(60, "x") + "\" b=\"c\"");
    }

    private static void comments() {
        Check.read("a<!--x-->b", "ab", "");
        Check.read("a<!---->b", "ab", "");
        Check.read("a<!-- <b> -- > & --x-->b-->c", "ab--&gt;c", "");
        Check.read("<!-->x-->b", "b", "");
        Check.read("<!--->x-->b", "b", "");
        Check.read("<!----->b", "b", "");
        Check.read("<b><!-- </b> --></b>", "<b></b>", "");
        Check.read("<!--a--><!--b-->", "", "");
        Check.read("<!--x->y--z>-- >-->b", "b", "");
        Check.read("x!--y-->z", "x!--y--&gt;z", "");
    }

    private static void styles() {
        Check.read("<style>a<b>&lt;<!--</style>x", "<style>a<b>&lt;<!--</style>x", "");
        Check.read("<STYLE>a</STYLE></style>x", "<style>a</STYLE></style>x", "");
        Check.read("<style></style>x", "<style></style>x", "");
        Check.read("<style>a/style>< /style></style>x", "<style>a/style>< /style></style>x", "");
        Check.read("<style> \n </style>x", "<style></style>x", "");
        Check.read("<style> x </style>y", "<style> x </style>y", "");
        Check.read("<style>a</style b=c >x", "<style>a</style>x", "");
        Check.read("<style>a</styl></ style></style/>x", "<style>a</styl></ style></style>x", "");
        Check.read("<style>a<p>", "<style>a<p></style>", "4@0");
        Check.read("<style>a</style", "<style>a</style>", "1@8 4@0");
        Check.read("<style a=1>a</style>&lt;", "<style a=\"1\">a</style>&lt;", "");
        Check.read("<p><style><div></style>x", "<p><style><div></style>x</p>", "");
        // another NAME ends the run, but not the style
        Check.read("<style>a&lt;</stylex>b&lt;<i></style>c", "<style>a&lt;b&lt;<i></style>c", "3@12");
        Check.read("<stylex><style>a</stylex>&lt;", "<stylex><style>a</style></stylex>&lt;", "4@8");
    }

    private static void texts() {
        Check.read("  <b> </b> \n <i>x</i> ", "<b></b><i>x</i>", "");
        Check.read(" a <b> c </b> d ", " a <b> c </b> d ", "");
        Check.read("a<!----> <!---->\n<!---->b", "a \nb", "");
        Check.read("a<b></b> c", "a<b></b> c", "");
        Check.read("a<b></b> <!---->c", "a<b></b>c", "");
        Check.read("<b>a</b> <b>c</b>", "<b>a</b><b>c</b>", "");
        Check.read("a</x>b", "ab", "3@1");
        Soup x = new Soup();
        Check.due("runs join", Check.page(x, "a<!---->b</q>c"), 2);
        Check.due("runs do not join behind an ELEMENT", Check.page(x, "a<br>b"), 4);
        Check.due("blanks alone", Check.page(x, " \n "), 1);
    }

    private static void blocksCloseP() {
        String[] blocks = {"div", "p", "h1", "ul", "li", "form"};
        for (String block : blocks) {
            String faults = block.equals("p") || block.equals("li") ? "" : "4@4";
            Check.read("<p>a<" + block + ">b", "<p>a</p><" + block + ">b</" + block + ">", faults);
        }
        Check.read("<p>a<hr>b", "<p>a</p><hr>b", "");
        String[] others = {"span", "a", "b", "i", "button", "style", "x"};
        for (String other : others) {
            Check.read("<p>a<" + other + ">b", "<p>a<" + other + ">b</" + other + "></p>", "4@4");
        }
        String[] empties = {"br", "img", "input"};
        for (String empty : empties) {
            Check.read("<p>a<" + empty + ">b", "<p>a<" + empty + ">b</p>", "");
        }
        Check.read("<p><b><i>x<div>y</div>", "<p><b><i>x</i></b></p><div>y</div>", "4@6 4@3");
        Check.read("<b><p>x<p>y</b>", "<b><p>x</p><p>y</p></b>", "");
        Check.read("<b><hr>x</b>", "<b><hr>x</b>", "");
    }

    private static void items() {
        Check.read("<ul><li>1<li>2</ul>", "<ul><li>1</li><li>2</li></ul>", "");
        Check.read("<ul><li>1<ul><li>2<li>3</ul>4<li>5</ul>",
            "<ul><li>1<ul><li>2</li><li>3</li></ul>4</li><li>5</li></ul>", "");
        Check.read("<li>1<b>2<li>3", "<li>1<b>2</b></li><li>3</li>", "4@5");
        Check.read("<li>1<div>2<li>3", "<li>1<div>2</div></li><li>3</li>", "4@5");
        Check.read("<li><p>1<li><p>2", "<li><p>1</p></li><li><p>2</p></li>", "");
        Check.read("<li><ul><b><li>1</ul>", "<li><ul><b><li>1</li></b></ul></li>", "4@8");
        Check.read("<ul><li><ul></ul><li>x</ul>", "<ul><li><ul></ul></li><li>x</li></ul>", "");
    }

    private static void anchors() {
        Check.read("<a>1<a>2</a>3", "<a>1</a><a>2</a>3", "5@4");
        Check.read("<a>1<b>2<a>3</a></b>4", "<a>1<b>2</b></a><a>3</a>4", "4@4 5@8 3@16");
        Check.read("<a><p><i><a x x></a>", "<a><p><i></i></p></a><a x=\"\"></a>", "2@14 4@6 5@9");
        Check.read("<a>x", "<a>x</a>", "4@0");
        Check.read("<div><a>x</div><a>y</a>", "<div><a>x</a></div><a>y</a>", "4@5");
    }

    private static void endTags() {
        Check.read("<b><i>x</b>y", "<b><i>x</i></b>y", "4@3");
        Check.read("<b><i><b>x</b>y</i></b>", "<b><i><b>x</b>y</i></b>", "");
        Check.read("<x><y><z>1</x>2", "<x><y><z>1</z></y></x>2", "4@6 4@3");
        Check.read("<x>1</y>2</x>", "<x>12</x>", "3@4");
        Check.read("x</div>y", "xy", "3@1");
        Check.read("<div>x</div></div>y", "<div>x</div>y", "3@12");
        Check.read("<b>x</div>y</b>", "<b>xy</b>", "3@4");
        Check.read("<br></br></hr></img></input>", "<br>", "3@4 3@9 3@14 3@20");
        Check.read("<ul><li>1<ul>2</li>3</ul>", "<ul><li>1<ul>2</ul></li>3</ul>", "4@9");
        Check.read("<p>1</p>2</p>", "<p>1</p>2", "3@9");
        Check.read("<b>x</b a=1 c='>'>y", "<b>x</b>y", "");
    }

    private static void numbers() {
        Soup x = new Soup();
        Check.page(x, "<p>a<br>b<p>c");
        int[] tags = {0, 1, 17, 10, 17, 1, 17};
        for (int n = 0; n < tags.length; n++) {
            Check.due("the TAG of NODE " + n, x.node(n, 0), tags[n]);
        }
        Check.page(x, "<x>" + Check.times(20, "<b></q>"));
        Check.due("gone TAGS take no number", x.node(21, 0), -1);
    }
}
