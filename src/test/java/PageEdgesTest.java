import java.util.List;

/** The edges of promise 5 and of Part IV: SIGNS and THE TREE; above each test stands the sentence that it tests. */
public final class PageEdgesTest {
    private static final String TAGS_CLOSED_BY_NAME = "div p h1 ul li form span a b i button style other";
    private static final String EMPTY_TAGS = "br hr img input";

    public static void main(String[] args) {
        lengths();
        noTextIsWrongButForItsBytes();
        treeIsWhatThePageGives();
        leastFreeNumber();
        entities();
        tagBegins();
        tagNamesOfMoreThan8();
        attributesParted();
        attributeNamesFirstByte();
        attributeNamesOfMoreThan8();
        valuesWithoutBytes();
        valuesOfMoreThan60();
        commentsUpToTheNext();
        stylesUpToTheNext();
        blocksCloseP();
        itemsCloseItems();
        anchorsCloseAnchors();
        emptyTagsAreNotOpen();
        endTagsCloseTheInnermost();
        neverTheRoot();
        runsJoin();
        blanksAlone();
        Check.close();
    }

    /** A page of one TEXT, and no FAULT. */
    private static void plain(String page, String want) {
        Soup x = new Soup();
        Check.due("page of " + page, Check.page(x, page), 2);
        Check.due("TEXT of " + page, Check.named(x, 1), want);
        Check.due("faults of " + page, x.faults(), 0);
    }

    /** "at most 1500 bytes, else NONE, and all stays" */
    private static void lengths() {
        Check.due("0 bytes", Check.page(new Soup(), ""), 1);
        Check.due("1 byte", Check.page(new Soup(), "x"), 2);
        for (int bytes : new int[] {1499, 1500}) {
            Soup x = new Soup();
            Check.due(bytes + " bytes", Check.page(x, Check.times(bytes - 1, "x") + "<"), 2);
            Check.due("a TEXT of them", x.node(1, 5), 400);
            Check.due("the last byte of " + bytes, Check.page(x, Check.times(bytes - 4, " ") + "<hr>"), 2);
        }
        Soup x = new Soup();
        Check.page(x, "</q><b a=1>stays");
        Check.set(x, 0, "k=v");
        x.name(1);
        for (int bytes : new int[] {1501, 1502, 1520, 1999, 2000}) {
            Check.refused("page", x.again(), 0, Check.times(bytes, "x"), -1);
            Check.refused("page", x.again(), 0, Check.times(bytes, " "), -1);
        }
    }

    /** "WRONG for bytes alone." */
    private static void noTextIsWrongButForItsBytes() {
        String good = "\n";
        for (char b = 32; b <= 126; b++) {
            good += b;
        }
        for (char first : good.toCharArray()) {
            for (char second : good.toCharArray()) {
                String page = "" + first + second;
                Soup x = new Soup();
                boolean tag = first == '<' && Character.isLetter(second);
                Check.due("page of " + page, Check.page(x, page), tag || page.isBlank() ? 1 : 2);
                Check.due("faults of " + page, Check.faults(x), tag ? "1@0" : "");
            }
        }
    }

    /** "THE TREE is what it gives: how many NODES it has." */
    private static void treeIsWhatThePageGives() {
        Soup x = new Soup();
        Check.page(x, Check.times(119, "<br a=1>"));
        Check.set(x, 0, "k=v");
        Check.page(x, "</q>" + Check.times(10, "<b c=d>t"));
        Check.due("a smaller one behind a full one", Check.page(x, "<i>t</i>"), 3);
        Check.due("all of it", Check.state(x),
            "OUT  FAULTS 0  NODES 0: 0,-1,1,0,0,0,0 1: 9,0,1,0,0,0,1 2: 17,1,0,0,0,1,2 <div><i>t</i></div>");
        Check.due("a page of no bytes", Check.page(x, ""), 1);
        Check.due("all of it", Check.state(x), "OUT  FAULTS 0  NODES 0: 0,-1,0,0,0,0,0 <div></div>");
    }

    /** "NODES, at most 120, numbered 0 .. 119 (one that comes gets the least number that is free)" */
    private static void leastFreeNumber() {
        Soup x = new Soup();
        Check.due("full", Check.page(x, Check.times(59, "<b>t</b>") + "<hr>"), 120);
        for (int n = 1; n < 119; n++) {
            Check.due("the TAG of " + n, x.node(n, 0), n % 2 == 1 ? 8 : 17);
        }
        Check.due("the TAG of 119", x.node(119, 0), 11);
        Check.due("120 is none", x.node(120, 0), -1);
        x.remove(119);
        x.remove(118);
        x.remove(1);
        Check.due("the least of 1, 2, 118, 119", Check.add(x, 0, "i"), 1);
        Check.due("then 2, for a TEXT", Check.text(x, 1, "t"), 118);
        Check.due("it is there", x.kid(1, 0), 2);
        Check.due("then 118", Check.add(x, 0, "i"), 118);
        Check.due("then 119", Check.add(x, 0, "i"), 119);
        Check.due("then none", Check.add(x, 0, "i"), -1);
    }

    /** "&lt; &gt; &amp; &quot; are < > & \"; & not followed so is itself." */
    private static void entities() {
        plain("&lt;&gt;&amp;&quot;", "<>&\"");
        for (String entity : new String[] {"&lt;", "&gt;", "&amp;", "&quot;"}) {
            for (int cut = 1; cut < entity.length(); cut++) {
                plain(entity.substring(0, cut), entity.substring(0, cut));
                plain(entity.substring(0, cut) + " ;", entity.substring(0, cut) + " ;");
            }
            plain(entity.toUpperCase(), entity.toUpperCase());
        }
        plain("&amp;amp;", "&amp;");
        plain("&amp;quot;", "&quot;");
        plain("&&&", "&&&");
        plain("&ltt;&lt;t;", "&ltt;<t;");
        // what an ENTITY means begins no TAG
        plain("&lt;br>", "<br>");
        plain("&lt;!-- -->", "<!-- -->");
        plain("&quo<!---->t;", "&quot;");
    }

    /** "A TAG begins with <, perhaps /, a letter" */
    private static void tagBegins() {
        for (char b = 32; b <= 126; b++) {
            boolean letter = b >= 'a' && b <= 'z' || b >= 'A' && b <= 'Z';
            String small = ("" + b).toLowerCase();
            String page = "x<" + b + ">y</" + b + ">z";
            if (letter) {
                Check.read(page, "x<" + small + ">y</" + small + ">z", "");
            } else if (b != '<') {
                plain(page, page);
            }
        }
        plain("<", "<");
        plain("</", "</");
        plain("<//b>", "<//b>");
        plain("< b>", "< b>");
        plain("</ b>", "</ b>");
        plain("<\nb>", "<\nb>");
        Check.read("<<br>", "&lt;<br>", "");
        Check.read("</<br>", "&lt;/<br>", "");
        // letters and digits alone are its NAME
        Check.read("<a0z9></a0z9>", "<a0z9></a0z9>", "");
        for (String other : new String[] {"-", ":", "_", "[", "`", "{", "@", "."}) {
            Check.read("<bb" + other + "c></bb>", "<bb " + other + "c=\"\"></bb>", "");
        }
    }

    /** "its NAME is all letters and digits that stand there, capitals as small ones, of more than 8 the first 8" */
    private static void tagNamesOfMoreThan8() {
        Check.read("<Abcdefg></aBCDEFG>", "<abcdefg></abcdefg>", "");
        Check.read("<abcdefgH></ABCDEFGh>", "<abcdefgh></abcdefgh>", "");
        Check.read("<abcdefghi></abcdefgh>", "<abcdefgh></abcdefgh>", "");
        Check.read("<abcdefgh></abcdefghi0>", "<abcdefgh></abcdefgh>", "");
        Check.read("<abcdefgh></abcdefg>", "<abcdefgh></abcdefgh>", "3@10 4@0");
        Check.read("<" + Check.times(1400, "Q") + " a></qqqqqqqq>", "<qqqqqqqq a=\"\"></qqqqqqqq>", "");
        Check.read("<x12345678 9></x1234567>", "<x1234567 9=\"\"></x1234567>", "");
    }

    private static void given(String attributes, String want) {
        Check.read("<x" + attributes + "></x>", "<x" + want + "></x>", "");
    }

    /** "up to a > that is in no VALUE, bytes 10, 32 and / part ATTRIBUTES" */
    private static void attributesParted() {
        given("", "");
        given(" ", "");
        given("/", "");
        given("\n/ //\n ", "");
        given(" a", " a=\"\"");
        given("/a/", " a=\"\"");
        given("\na\nb\nc\nd\n", " a=\"\" b=\"\" c=\"\" d=\"\"");
        given("/a b\nc/d", " a=\"\" b=\"\" c=\"\" d=\"\"");
        given(" a='1'b=\"2\"c='3'd", " a=\"1\" b=\"2\" c=\"3\" d=\"\"");
        given(" a='>' b=\"/>\"", " a=\"&gt;\" b=\"/&gt;\"");
        Check.read("<x a=>y</x>", "<x a=\"\">y</x>", "");
        Check.read("<x a=1>2></x>", "<x a=\"1\">2&gt;</x>", "");
        Check.read("<x a'>b'></x>", "<x a'=\"\">b'&gt;</x>", "");
    }

    /** "a NAME being its first byte, whatever it is, and all up to =, 10, 32, / or >" */
    private static void attributeNamesFirstByte() {
        for (char b = 33; b <= 126; b++) {
            String small = ("" + b).toLowerCase();
            if (b != '/' && b != '>') {
                given(" " + b, " " + small + "=\"\"");
                given(" " + b + "=v", " " + small + "=\"v\"");
                given(" k=v " + b + "c=v", b == '=' ? " k=\"v\" =c=\"v\"" : " k=\"v\" " + small + "c=\"v\"");
            }
            if (b != '/' && b != '>' && b != '=') {
                given(" a" + b + "=v", " a" + small + "=\"v\"");
            }
        }
        given(" ===", " ==\"=\"");
        given(" a =v", " a=\"\" =v=\"\"");
        given(" a/=v", " a=\"\" =v=\"\"");
        given(" a\n=v", " a=\"\" =v=\"\"");
    }

    /** "(capitals as small ones; of more than 8 the first 8)" */
    private static void attributeNamesOfMoreThan8() {
        given(" Abcdefg=1", " abcdefg=\"1\"");
        given(" ABCDEFGH=1", " abcdefgh=\"1\"");
        given(" ABCDEFGHI=1", " abcdefgh=\"1\"");
        given(" " + Check.times(1000, "k") + "=1", " kkkkkkkk=\"1\"");
        given(" 1234567-9=1", " 1234567-=\"1\"");
        given(" abcdefg abcdefgh", " abcdefg=\"\" abcdefgh=\"\"");
        Check.read("<x abcdefgh abcdefghi></x>", "<x abcdefgh=\"\"></x>", "2@12");
    }

    /** "then perhaps = (right behind) and a VALUE: in \" or ' up to the next one like it, else all up to 10, 32 or >" */
    private static void valuesWithoutBytes() {
        given(" a=", " a=\"\"");
        given(" a= b", " a=\"\" b=\"\"");
        given(" a=\nb", " a=\"\" b=\"\"");
        given(" a='' b=\"\"", " a=\"\" b=\"\"");
        given(" a=''b", " a=\"\" b=\"\"");
        given(" a=/", " a=\"/\"");
        given(" a=v/ b", " a=\"v/\" b=\"\"");
        given(" a='\"' b=\"'\"", " a=\"&quot;\" b=\"'\"");
        given(" a=v'w\"", " a=\"v'w&quot;\"");
        given(" a= 'v'", " a=\"\" 'v'=\"\"");
        given(" a='\n >'", " a=\"\n &gt;\"");
        given(" A=VwX", " a=\"VwX\"");
    }

    /** "of more than 60 bytes the first 60, ENTITIES read ahead of that" */
    private static void valuesOfMoreThan60() {
        for (String quote : new String[] {"", "'", "\""}) {
            for (int bytes = 59; bytes <= 62; bytes++) {
                String kept = Check.times(Math.min(bytes, 60), "v");
                given(" a=" + quote + Check.times(bytes, "v") + quote + " b=c", " a=\"" + kept + "\" b=\"c\"");
                given(" a=" + quote + Check.times(bytes, "&amp;") + quote, " a=\"" + kept.replace("v", "&amp;") + "\"");
            }
            String v58 = Check.times(58, "v");
            given(" a=" + quote + v58 + "&lt;w&gt;" + quote, " a=\"" + v58 + "&lt;w\"");
            given(" a=" + quote + v58 + "w&lt;&gt;" + quote, " a=\"" + v58 + "w&lt;\"");
            given(" a=" + quote + v58 + "&ltw" + quote, " a=\"" + v58 + "&amp;l\"");
        }
        given(" a='" + Check.times(1400, "v") + "'", " a=\"" + Check.times(60, "v") + "\"");
    }

    /** "COMMENTS: <!-- up to the next -->." */
    private static void commentsUpToTheNext() {
        Check.read("<!---->", "", "");
        Check.read("a<!---->b", "ab", "");
        Check.read("a<!-- -->b-->c", "ab--&gt;c", "");
        Check.read("a<!--<!---->b", "ab", "");
        Check.read("a<!----->b", "ab", "");
        Check.read("a<!--\n-\n->--\n>-->b", "ab", "");
        // the comment's own beginning is no part of its end
        Check.read("a<!-->b-->c", "ac", "");
        Check.read("a<!--->b-->c", "ac", "");
        Check.read("a<!-->", "a", "1@1");
        Check.read("a<!--->", "a", "1@1");
        plain("<!-", "<!-");
        plain("<!- -->", "<!- -->");
        plain("-->", "-->");
        Check.read("<b <!-- a=1 --></b>", "<b <!--=\"\" a=\"1\" --=\"\"></b>", "");
    }

    /** "Text in style, up to the next </style (in small letters), is a run without ENTITIES." */
    private static void stylesUpToTheNext() {
        Check.read("<style></style>&lt;", "<style></style>&lt;", "");
        Check.read("<style>&lt;</style>&lt;", "<style>&lt;</style>&lt;", "");
        Check.read("<style><b><!-- </b></style>t", "<style><b><!-- </b></style>t", "");
        Check.read("<style></Style></STYLE></styl></style>t", "<style></Style></STYLE></styl></style>t", "");
        Check.read("<sTYLe a=1></style b=2 >t", "<style a=\"1\"></style>t", "");
        Check.read("<style>a", "<style>a</style>", "4@0");
        Check.read("<style>", "<style></style>", "4@0");
        Check.read("<style>a</styl", "<style>a</styl</style>", "4@0");
        Check.read("<style>a</style", "<style>a</style>", "1@8 4@0");
        Check.read("<style> \n</style>", "<style></style>", "");
        Check.read("<style> \na</style>", "<style> \na</style>", "");
        Check.read("<p><style><p></style></p>", "<p><style><p></style></p>", "");
    }

    /** "a BLOCK TAG closes a p that is open (with all in it)" */
    private static void blocksCloseP() {
        for (String tag : TAGS_CLOSED_BY_NAME.split(" ")) {
            boolean block = List.of("div", "p", "h1", "ul", "li", "form").contains(tag);
            String inner = "<" + tag + ">u</" + tag + ">";
            String page = "<p>t" + inner;
            if (block) {
                Check.read(page, "<p>t</p>" + inner, "");
                Check.read("<p><b>t" + inner, "<p><b>t</b></p>" + inner, "4@3");
            } else {
                Check.read(page, page + "</p>", "");
                Check.read("<p><b>t" + inner + "</b>", "<p><b>t" + inner + "</b></p>", "");
            }
        }
        for (String empty : EMPTY_TAGS.split(" ")) {
            String want = empty.equals("hr") ? "<p>t</p><hr>u" : "<p>t<" + empty + ">u</p>";
            Check.read("<p>t<" + empty + ">u", want, "");
        }
        Check.read("<p></p><div></div>", "<p></p><div></div>", "");
        Check.read("t<div></div>", "t<div></div>", "");
    }

    /** "li closes the li that is open, if no ul was opened behind that" */
    private static void itemsCloseItems() {
        Check.read("<li><li>", "<li></li><li></li>", "");
        Check.read("<li><b><i><li>", "<li><b><i></i></b></li><li></li>", "4@7 4@4");
        Check.read("<li><ul><li></ul></li>", "<li><ul><li></li></ul></li>", "");
        Check.read("<ul><li><li></ul>", "<ul><li></li><li></li></ul>", "");
        Check.read("<li><ul></ul><li>", "<li><ul></ul></li><li></li>", "");
        Check.read("<li><ul><ul><li></ul></ul>", "<li><ul><ul><li></li></ul></ul></li>", "");
        Check.read("<li><ul><li><li></ul><li>", "<li><ul><li></li><li></li></ul></li><li></li>", "");
        Check.read("<li><div><li>", "<li><div></div></li><li></li>", "4@4");
    }

    /** "a closes an a that is open" */
    private static void anchorsCloseAnchors() {
        Check.read("<a><a></a>", "<a></a><a></a>", "5@3");
        Check.read("<a></a><a></a>", "<a></a><a></a>", "");
        Check.read("<a><b><div><a></a>", "<a><b><div></div></b></a><a></a>", "4@6 4@3 5@11");
        Check.read("<b><a>1<a>2<a>3</a></b>", "<b><a>1</a><a>2</a><a>3</a></b>", "5@7 5@11");
    }

    /** "then its NODE comes into the innermost that is open, and is open, if it is no EMPTY TAG" */
    private static void emptyTagsAreNotOpen() {
        for (String empty : EMPTY_TAGS.split(" ")) {
            Check.read("<" + empty + ">t", "<" + empty + ">t", "");
            Check.read("<" + empty + " a=1/><b></b>", "<" + empty + " a=\"1/\"><b></b>", "");
            Check.read("<b><" + empty + "></b>t", "<b><" + empty + "></b>t", "");
        }
        for (String tag : TAGS_CLOSED_BY_NAME.split(" ")) {
            Check.read("<" + tag + ">t</" + tag + ">u", "<" + tag + ">t</" + tag + ">u", "");
            Check.read("<" + tag + "/>t</" + tag + "/>u", "<" + tag + ">t</" + tag + ">u", "");
        }
    }

    /** "An end TAG closes the innermost open one of its NAME (of other: that has the same NAME), with all in it" */
    private static void endTagsCloseTheInnermost() {
        Check.read("<b>1<b>2</b>3</b>4", "<b>1<b>2</b>3</b>4", "");
        Check.read("<b>1<b>2<i>3</b>4</b>5", "<b>1<b>2<i>3</i></b>4</b>5", "4@8");
        Check.read("<xx><yy></xx>1</yy>", "<xx><yy></yy></xx>1", "4@4 3@14");
        Check.read("<other><xx></other>1", "<other><xx></xx></other>1", "4@7");
        Check.read("<xx></yy></xx>", "<xx></xx>", "3@4");
        Check.read("<b></b></b>", "<b></b>", "3@7");
    }

    /** "never THE ROOT" */
    private static void neverTheRoot() {
        Check.read("</div>t", "t", "3@0");
        Check.read("<div></div></div>t", "<div></div>t", "3@11");
        Check.read("<b></div>t</b>", "<b>t</b>", "3@3");
        Check.read("<div><b></div>t</div>u", "<div><b></b></div>tu", "4@5 3@15");
    }

    /** "to the TEXT that is last there, if one is, else as a new one" */
    private static void runsJoin() {
        Soup x = new Soup();
        Check.due("over a COMMENT", Check.page(x, "a<!-- -->b"), 2);
        Check.due("bytes", x.node(1, 5), 2);
        Check.due("over an end TAG that is gone", Check.page(x, "a</q>b</br>c</div>d"), 2);
        Check.due("bytes", x.node(1, 5), 4);
        Check.due("not over an ELEMENT", Check.page(x, "a<b></b>b"), 4);
        Check.due("not over an EMPTY TAG", Check.page(x, "a<br>b"), 4);
        Check.due("not into another", Check.page(x, "a<b>b</b>"), 4);
        Check.due("nor out of it", Check.page(x, "<b>b</b>a"), 4);
        // a p goes, and what was ahead of it is not last any more
        Check.due("not over a p", Check.page(x, "a<p>b<hr>c"), 6);
    }

    /** "text of bytes 10 and 32 alone does so only behind a TEXT (else it is gone)" */
    private static void blanksAlone() {
        Check.read(" ", "", "");
        Check.read("\n \n", "", "");
        Check.read("<b> </b>", "<b></b>", "");
        Check.read("<b></b>\n", "<b></b>", "");
        Check.read("a<b></b> ", "a<b></b>", "");
        Check.read("a<!----> ", "a ", "");
        Check.read("a</q>\n<b>\n</b>", "a\n<b></b>", "3@1");
        Check.read(" <!----> a", " a", "");
        Check.read(" a ", " a ", "");
        Check.read("\n.", "\n.", "");
        Check.read("<b>a</b> <i>b</i>", "<b>a</b><i>b</i>", "");
    }
}
