/** Promises 11 and 12: fault and faults, and what the Terms say of each FAULT. */
public final class FaultTest {
    public static void main(String[] args) {
        told();
        notEnded();
        tooManyAttributes();
        attributesOfEndTags();
        nothingToClose();
        closedByOthers();
        tooDeep();
        tooDeepStyles();
        tooManyNodes();
        tooLong();
        order();
        Check.close();
    }

    private static void told() {
        Soup x = new Soup();
        Check.page(x, "ab</p>c</q>" + Check.times(38, "</z>"));
        Check.due("faults()", x.faults(), 40);
        Check.due("fault(0, 0)", x.fault(0, 0), 3);
        Check.due("fault(0, 1)", x.fault(0, 1), 2);
        Check.due("fault(1, 1)", x.fault(1, 1), 7);
        Check.due("fault(39, 0)", x.fault(39, 0), 3);
        Check.due("fault(39, 1)", x.fault(39, 1), 11 + 37 * 4);
        Check.due("fault(40, 0)", x.fault(40, 0), -1);
        Check.due("fault(0, 2)", x.fault(0, 2), -1);
        Check.due("fault(0, -1)", x.fault(0, -1), -1);
        Check.due("fault(-1, 0)", x.fault(-1, 0), -1);
        Check.due("fault(-1, 1)", x.fault(-1, 1), -1);
        Check.due("fault(least, 0)", x.fault(Integer.MIN_VALUE, 0), -1);
        Check.due("fault(greatest, 1)", x.fault(Integer.MAX_VALUE, 1), -1);
        Check.page(x, Check.times(300, "</z>"));
        Check.due("all of them", x.faults(), 300);
        Check.due("the 40th", x.fault(39, 1), 39 * 4);
        Check.due("the 41st", x.fault(40, 0), -1);
        Check.due("the 41st", x.fault(40, 1), -1);
        Check.page(x, "</z><b></b>");
        Check.due("of the latest page", x.faults(), 1);
        Check.due("one that the page before had", x.fault(1, 0), -1);
        Check.due("one that the page before had", x.fault(1, 1), -1);
        Check.add(x, 0, "b");
        x.remove(1);
        Check.due("changes leave the FAULTS", Check.faults(x), "3@0");
    }

    private static void notEnded() {
        Check.read("a<b", "a", "1@1");
        Check.read("a</b", "a", "1@1");
        Check.read("a<b x=1 x=2 x=3 ", "a", "1@1");
        Check.read("<b>x</b y y", "<b>x</b>", "1@4 4@0");
        Check.read("a<b x=\">more</b>", "a", "1@1");
        Check.read("a<b x='>more</b>", "a", "1@1");
        Check.read("a<b x='y'", "a", "1@1");
        Check.read("a<b x=", "a", "1@1");
        Check.read("a<b x=\"", "a", "1@1");
        Check.read("a<b/", "a", "1@1");
        Check.read("<i>a<!-- <b> -- >", "<i>a</i>", "1@4 4@0");
        Check.read("<!-->", "", "1@0");
        Check.read("<!--->", "", "1@0");
        Check.read("<!--", "", "1@0");
        Check.read("<!--x--", "", "1@0");
        Check.read("<p>x<p", "<p>x</p>", "1@4");
        Check.read("<a><a", "<a></a>", "1@3 4@0");
        Check.read("</x><b a a", "", "3@0 1@4");
    }

    private static void tooManyAttributes() {
        Check.read("<x y=1 y=2></x>", "<x y=\"1\"></x>", "2@7");
        Check.read("<x y Y=2></x>", "<x y=\"\"></x>", "2@5");
        Check.read("<x abcdefgh1=1 abcdefgh2=2></x>", "<x abcdefgh=\"1\"></x>", "2@15");
        Check.read("<x a b c d></x>", "<x a=\"\" b=\"\" c=\"\" d=\"\"></x>", "");
        Check.read("<x a b c d e=1 f e></x>", "<x a=\"\" b=\"\" c=\"\" d=\"\"></x>", "2@11 2@15 2@17");
        Check.read("<x a a a b></x>", "<x a=\"\" b=\"\"></x>", "2@5 2@7");
        Check.read("<x a b c d a></x>", "<x a=\"\" b=\"\" c=\"\" d=\"\"></x>", "2@11");
        Check.read("<x y='>' y='>'>z</x>", "<x y=\"&gt;\">z</x>", "2@9");
        Check.read("<x a=1></x><y a=2></y>", "<x a=\"1\"></x><y a=\"2\"></y>", "");
    }

    private static void attributesOfEndTags() {
        Check.read("<p></p a a>", "<p></p>", "");
        Check.read("<x>1</x a a b c d e>2", "<x>1</x>2", "");
        Check.read("<x>1</x a b c d e f g h>2", "<x>1</x>2", "");
        Check.read("<x>1</x a='>' a=\">\" a=&gt;>2", "<x>1</x>2", "");
        Check.read("1</x a a>2", "12", "3@1");
        Check.read("1</br a a b c d e>2", "12", "3@1");
        Check.read("<b><i>x</b c c>", "<b><i>x</i></b>", "4@3");
        Check.read("<b>x</b c c", "<b>x</b>", "1@4 4@0");
        Check.read("<style>x</style a a>y", "<style>x</style>y", "");
        Check.read("<x></x a b c d><y a b c d></y>", "<x></x><y a=\"\" b=\"\" c=\"\" d=\"\"></y>", "");
        Check.read("<x a a></x a a><y a a></y>", "<x a=\"\"></x><y a=\"\"></y>", "2@5 2@20");
        Check.read("<x a=1><y></y a=2 b=3>z</x>", "<x a=\"1\"><y></y>z</x>", "");
    }

    private static void nothingToClose() {
        Check.read("</b>", "", "3@0");
        Check.read("</div>", "", "3@0");
        Check.read("<b></b></b>", "<b></b>", "3@7");
        Check.read("<p></br></p>", "<p></p>", "3@3");
        Check.read("<other></others></other>", "<other></other>", "3@7");
        Check.read("<style></style></style>", "<style></style>", "3@15");
    }

    private static void closedByOthers() {
        Check.read("<b><i>", "<b><i></i></b>", "4@3 4@0");
        Check.read("<p><li>", "<p></p><li></li>", "");
        Check.read("<b><p><i><li></b>", "<b><p><i></i></p><li></li></b>", "4@6");
        Check.read("x<form>y<ul>z</form>", "x<form>y<ul>z</ul></form>", "4@8");
        Check.read("<button><h1></button>", "<button><h1></h1></button>", "4@8");
        Check.read("<br><hr><img><input>", "<br><hr><img><input>", "");
        Check.read("<div>", "<div></div>", "4@0");
        Check.read("<span><a>", "<span><a></a></span>", "4@6 4@0");
    }

    private static void tooDeep() {
        String open = Check.times(19, "<x>");
        String close = Check.times(19, "</x>");
        Check.read(open + "<b>" + "</b>" + close, open + "<b></b>" + close, "");
        Check.read(open + "t" + close, open + "t" + close, "");
        Check.read(open + "<br>" + close, open + "<br>" + close, "");
        Check.read(open + "<b>tt</b>" + close, open + "<b></b>" + close, "6@60");
        Check.read(open + "<b> </b>" + close, open + "<b></b>" + close, "");
        Check.read(open + "<b><!---->t<!---->t</b>" + close, open + "<b></b>" + close, "6@67 6@75");
        Check.read(open + "<b><br></b>" + close, open + "<b></b>" + close, "6@60");
        Check.read(open + "<b><i>t</i></b>" + close, open + "<b></b>" + close, "6@60 6@63 3@64");
        Check.read(open + "<b><b></b>t</b>" + close, open + "<b></b>t" + close, "6@60 3@68");
        Check.read(open + "<b><i a a></b>" + close, open + "<b></b>" + close, "2@65 6@60");
        Soup x = new Soup();
        Check.page(x, Check.times(30, "<x>"));
        Check.due("how deep", x.node(20, 6), 20);
        Check.due("no deeper", x.node(21, 6), -1);
        Check.due("FAULTS", x.faults(), 30);
        // the p goes before the new one comes, so that there is room for it
        Check.read(open + "<p><p>" + close, open + "<p></p><p></p>" + close, "");
        Check.read(open + "<a><a></a>" + close, open + "<a></a><a></a>" + close, "5@60");
    }

    private static void tooDeepStyles() {
        String open = Check.times(18, "<x>");
        String close = Check.times(18, "</x>");
        Check.read(open + "<i><style></style></i>" + close, open + "<i><style></style></i>" + close, "");
        Check.read(open + "<i><style>t</style></i>" + close, open + "<i><style></style></i>" + close, "6@64");
        Check.read(open + "<i><b><style>&lt;</b>u</style></i>" + close, open + "<i><b></b>u</i>" + close,
            "6@60 6@67 3@76");
    }

    private static void tooManyNodes() {
        Soup x = new Soup();
        Check.due("119 behind THE ROOT", Check.page(x, Check.times(119, "<br>")), 120);
        Check.due("no FAULT", x.faults(), 0);
        Check.due("one too many", Check.page(x, Check.times(120, "<br>")), 120);
        Check.due("FAULT", Check.faults(x), "6@476");
        Check.due("text too many", Check.page(x, Check.times(119, "<br>") + "abc"), 120);
        Check.due("FAULT", Check.faults(x), "6@476");
        Check.due("blanks are gone anyway", Check.page(x, Check.times(119, "<br>") + " \n"), 120);
        Check.due("no FAULT", Check.faults(x), "");
        Check.due("text that joins", Check.page(x, Check.times(118, "<br>") + "a<br>b<!---->c"), 120);
        Check.due("FAULT", Check.faults(x), "6@473");
        Check.due("the TEXT", Check.named(x, 119), "abc");
        Check.due("what it would hold", Check.page(x, "<i>" + Check.times(118, "<br>") + "<b><p>x</b></i>y"), 120);
        Check.due("FAULTS", Check.faults(x), "6@475 6@478 6@481 3@482 6@490");
        Check.due("an a that closes", Check.page(x, "<a>" + Check.times(118, "<br>") + "<a></a>"), 120);
        Check.due("FAULTS", Check.faults(x), "5@475 6@475 3@478");
        Check.due("a style", Check.page(x, Check.times(118, "<br>") + "x<style>&lt;<!-- --></style>"), 120);
        Check.due("FAULTS", Check.faults(x), "6@473 3@492");
        Check.due("read on", Check.named(x, 119), "x<");
    }

    private static void tooLong() {
        String full = Check.times(400, "x");
        Check.read(full, full, "");
        Check.read(full + "y", full, "7@400");
        Check.read(full + "yz<b>a</b>", full + "<b>a</b>", "7@400");
        Check.read("<b>" + full + "yyyyyyyyy</b>", "<b>" + full + "</b>", "7@403");
        Check.read(full + "yz<!---->more<!---->", full, "7@400");
        Check.read(full + "<!---->more", full, "7@407");
        Check.read(full + "<!----> ", full, "7@407");
        Check.read(full + "<!----><!---->", full, "");
        Check.read(full + "y<br>" + full + "z", full + "<br>" + full, "7@400 7@805");
        Check.read("&lt;" + full, "&lt;" + full.substring(1), "7@403");
        Check.read(full + "&lt;z", full, "7@400");
        Check.read(full.substring(1) + "&lt;&lt;", full.substring(1) + "&lt;", "7@403");
        Check.read("<style>" + full + "y</style>", "<style>" + full + "</style>", "7@407");
        Soup x = new Soup();
        Check.page(x, full + "y");
        Check.page(x, full + "y");
        Check.due("told of each page", Check.faults(x), "7@400");
        Check.due("bytes", x.node(1, 5), 400);
    }

    private static void order() {
        Check.read("<p><b>x<div y y>z", "<p><b>x</b></p><div y=\"\">z</div>", "2@14 4@3 4@7");
        Check.read("</q><b x x>y</i></b><!--", "<b x=\"\">y</b>", "3@0 2@9 3@12 1@20");
    }
}
