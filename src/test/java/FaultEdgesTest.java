/** The edges of promises 11 and 12, and of each of the FAULTS 1 to 7; above each test stands the sentence that it tests. */
public final class FaultEdgesTest {
    private static final String FULL = Check.times(400, "x");

    public static void main(String[] args) {
        whatOfFaults();
        fortyAtMostAreTold();
        allAreCounted();
        thePageReadLatest();
        tagsThatDoNotEnd();
        commentsThatDoNotEnd();
        noOtherFaultOfIt();
        attributesThatTheTagHas();
        aFifthAttribute();
        attributesOfEndTags();
        endTagsOfNothing();
        closedByAnythingElse();
        innermostFirst();
        anAByAnA();
        moreThan120();
        textsWithoutRoom();
        moreThan20Deep();
        whatItWouldHold();
        moreThan400();
        the401stByte();
        onceForAText();
        attributesAheadOfOthers();
        Check.close();
    }

    /** "what 0: which, 1: its PLACE; NONE." */
    private static void whatOfFaults() {
        Soup x = new Soup();
        Check.page(x, "ab</q>c<!--");
        Check.due("which", x.fault(0, 0), 3);
        Check.due("its PLACE", x.fault(0, 1), 2);
        Check.due("which", x.fault(1, 0), 1);
        Check.due("its PLACE", x.fault(1, 1), 7);
        for (int i : new int[] {0, 1, 2, -1, 40, Integer.MIN_VALUE, Integer.MAX_VALUE}) {
            for (int what : new int[] {2, -1, 3, Integer.MIN_VALUE, Integer.MAX_VALUE}) {
                Check.due("fault(" + i + ", " + what + ")", x.fault(i, what), -1);
            }
        }
        for (int i : new int[] {2, 3, 39, 40, 41, -1, -2, Integer.MIN_VALUE, Integer.MAX_VALUE}) {
            Check.due("fault(" + i + ", 0)", x.fault(i, 0), -1);
            Check.due("fault(" + i + ", 1)", x.fault(i, 1), -1);
        }
    }

    /** "(40 at most are told)" */
    private static void fortyAtMostAreTold() {
        for (int count : new int[] {0, 1, 39, 40, 41, 42, 375}) {
            Soup x = new Soup();
            Check.page(x, Check.times(count, "</q>"));
            Check.due("faults()", x.faults(), count);
            for (int i : new int[] {0, 1, 38, 39, 40, 41, 374, 375}) {
                boolean told = i < count && i < 40;
                Check.due("fault(" + i + ", 0) of " + count, x.fault(i, 0), told ? 3 : -1);
                Check.due("fault(" + i + ", 1) of " + count, x.fault(i, 1), told ? 4 * i : -1);
            }
        }
    }

    /** "How many FAULTS the page had, all of them." */
    private static void allAreCounted() {
        Soup x = new Soup();
        Check.due("of no page", x.faults(), 0);
        Check.page(x, "<x" + Check.times(747, " a") + ">");
        // the first is none, and the x is closed by the page's end
        Check.due("one for almost every two bytes", x.faults(), 747);
        Check.due("the 40th", x.fault(39, 1), 3 + 2 * 40);
        Check.page(x, "");
        Check.due("of a page of no bytes", x.faults(), 0);
        // the ones that go on behind the 40th are of other kinds
        Check.page(x, Check.times(40, "</q>") + "<b><i>" + FULL + "yy<a><a><!--");
        Check.due("5 more kinds behind the 40th", x.faults(), 46);
    }

    /** "Of the i-th FAULT of the page as it was read latest" */
    private static void thePageReadLatest() {
        Soup x = new Soup();
        Check.page(x, "</q></q></q>");
        Check.add(x, 0, "b");
        Check.text(x, 1, Check.times(401, "t"));
        Check.set(x, 1, "a=1");
        x.remove(1);
        Check.add(x, 77, "b");
        Check.due("no change is a FAULT, nor takes one", Check.faults(x), "3@0 3@4 3@8");
        Check.page(x, "</q>\u0001");
        Check.page(x, Check.times(1501, "x"));
        Check.due("nor is a page that was not read", Check.faults(x), "3@0 3@4 3@8");
        Check.page(x, "t</q>");
        Check.due("a page that was", Check.faults(x), "3@1");
        Check.due("and counted", x.faults(), 1);
    }

    /** "1 a TAG or COMMENT that does not end (all from its < on is gone" */
    private static void tagsThatDoNotEnd() {
        for (String tag : new String[] {"<b a='1' c=\"2\" d=e f/ =>", "</i a='1' c=\"2\" d=e f/ =>"}) {
            int shortest = tag.startsWith("</") ? 3 : 2;
            for (int cut = shortest; cut < tag.length(); cut++) {
                Check.read("<i>t" + tag.substring(0, cut), "<i>t</i>", "1@4 4@0");
            }
        }
        // a > in a VALUE is not its end
        Check.read("t<b a='>", "t", "1@1");
        Check.read("t<b a=\"><i></i></b>'", "t", "1@1");
        Check.read("t<b a='>\"<i></i></b>", "t", "1@1");
        Check.read("t<b<i", "t", "1@1");
        Check.read("<b", "", "1@0");
        // it closes nothing
        Check.read("<p>t<p", "<p>t</p>", "1@4");
        Check.read("<b>t</b", "<b>t</b>", "1@4 4@0");
        Check.read("<a>t<a", "<a>t</a>", "1@4 4@0");
    }

    /** the same of COMMENTS */
    private static void commentsThatDoNotEnd() {
        String comment = "<!--x-->";
        for (int cut = 4; cut < comment.length(); cut++) {
            Check.read("<i>t" + comment.substring(0, cut), "<i>t</i>", "1@4 4@0");
        }
        Check.read("t<!--<b></b>- ->", "t", "1@1");
        Check.read("t<!--" + Check.times(1490, "-"), "t", "1@1");
    }

    /** "and no other FAULT of it is told" */
    private static void noOtherFaultOfIt() {
        Check.read("t<b a a a a b c d e", "t", "1@1");
        Check.read("t</q a a", "t", "1@1");
        Check.read(Check.times(25, "<b>") + "<b a a", Check.times(20, "<b>") + Check.times(20, "</b>"),
            "6@60 6@63 6@66 6@69 6@72 1@75 " + fours(20));
        for (int before = 37; before <= 41; before++) {
            Soup x = new Soup();
            Check.page(x, Check.times(before, "</q>") + "<b a a a a a");
            Check.due("faults()", x.faults(), before + 1);
            Check.due("the 40th", x.fault(39, 0), before < 39 ? -1 : before == 39 ? 1 : 3);
            Check.due("the last one", x.fault(before, 0), before < 40 ? 1 : -1);
            Check.due("its PLACE", x.fault(before, 1), before < 40 ? 4 * before : -1);
            Check.due("none behind", x.fault(before + 1, 0), -1);
        }
    }

    /** FAULT 4 of so many one-letter TAGS from the page's start on, the innermost first. */
    private static String fours(int count) {
        StringBuilder all = new StringBuilder();
        for (int i = count - 1; i >= 0; i--) {
            all.append("4@").append(3 * i).append(i == 0 ? "" : " ");
        }
        return all.toString();
    }

    /** "2 an ATTRIBUTE whose NAME the TAG has already" "(at its first byte; it is gone)" */
    private static void attributesThatTheTagHas() {
        Check.read("<x a=1 a=2></x>", "<x a=\"1\"></x>", "2@7");
        Check.read("<x a=1 A=2></x>", "<x a=\"1\"></x>", "2@7");
        Check.read("<x a='1'a='2'></x>", "<x a=\"1\"></x>", "2@8");
        Check.read("<x/a//a\na></x>", "<x a=\"\"></x>", "2@6 2@8");
        Check.read("<x = =></x>", "<x ==\"\"></x>", "2@5");
        Check.read("<x a a='>' b></x>", "<x a=\"\" b=\"\"></x>", "2@5");
        Check.read("<x abcdefghi abcdefghj abcdefg></x>", "<x abcdefgh=\"\" abcdefg=\"\"></x>", "2@13");
        Check.read("<x a a b c d></x>", "<x a=\"\" b=\"\" c=\"\" d=\"\"></x>", "2@5");
        Check.read("<x a></x><x a></x>", "<x a=\"\"></x><x a=\"\"></x>", "");
        Check.read("<br a a>", "<br a=\"\">", "2@6");
    }

    /** "or a fifth one (at its first byte; it is gone)" */
    private static void aFifthAttribute() {
        Check.read("<x a b c d></x>", "<x a=\"\" b=\"\" c=\"\" d=\"\"></x>", "");
        Check.read("<x a b c d e></x>", "<x a=\"\" b=\"\" c=\"\" d=\"\"></x>", "2@11");
        Check.read("<x a b c d e=1 e=2 f='>'></x>", "<x a=\"\" b=\"\" c=\"\" d=\"\"></x>", "2@11 2@15 2@19");
        Check.read("<x a b c d='1'e></x>", "<x a=\"\" b=\"\" c=\"\" d=\"1\"></x>", "2@14");
        Check.read("<x a b c d d></x>", "<x a=\"\" b=\"\" c=\"\" d=\"\"></x>", "2@11");
    }

    /** "(those of end TAGS are read, and gone)" */
    private static void attributesOfEndTags() {
        Check.read("<x></x a a b c d e>t", "<x></x>t", "");
        Check.read("<x></x a='>'>t", "<x></x>t", "");
        Check.read("</x a a>t", "t", "3@0");
        Check.read("<x a></x a b><x b></x>", "<x a=\"\"></x><x b=\"\"></x>", "");
    }

    /** "3 an end TAG of nothing that is open, or of an EMPTY TAG (it is gone)" */
    private static void endTagsOfNothing() {
        Check.read("</b>", "", "3@0");
        Check.read("t</b>", "t", "3@1");
        Check.read("<b></b></b>", "<b></b>", "3@7");
        Check.read("<b></c></b>", "<b></b>", "3@3");
        Check.read("</p>", "", "3@0");
        Check.read("</li>", "", "3@0");
        Check.read("</style>", "", "3@0");
        Check.read("</div>", "", "3@0");
        for (String empty : new String[] {"br", "hr", "img", "input"}) {
            Check.read("<" + empty + "></" + empty + ">", "<" + empty + ">", "3@" + (empty.length() + 2));
            Check.read("<b>t</" + empty + ">u</b>", "<b>tu</b>", "3@4");
        }
        // a p that a block has closed is open no more
        Check.read("<p><div></div></p>", "<p></p><div></div>", "3@14");
        Check.read("<a><a></a></a>", "<a></a><a></a>", "5@3 3@10");
    }

    /** "4 an ELEMENT, but p and li, that is closed by anything else than its own end TAG (at the < of its start TAG" */
    private static void closedByAnythingElse() {
        for (String tag : "div h1 ul form span a b i button style other p li".split(" ")) {
            String four = tag.equals("p") || tag.equals("li") ? "" : "4@1";
            String element = "<" + tag + "></" + tag + ">";
            Check.read("t<" + tag + ">", "t" + element, four);
            Check.read("t" + element, "t" + element, "");
            if (!tag.equals("style")) {
                Check.read("<x><" + tag + "></x>", "<x>" + element + "</x>", four.replace("1", "3"));
                Check.read("<li><" + tag + "><li>", tag.equals("ul") ? "<li><ul><li></li></ul></li>"
                    : tag.equals("li") ? "<li></li><li></li><li></li>" : "<li>" + element + "</li><li></li>",
                    four.replace("1", "4"));
            }
        }
        Check.read("<br><hr><img><input>", "<br><hr><img><input>", "");
    }

    /** "told when it is closed, the innermost first" */
    private static void innermostFirst() {
        Check.read("<b><i><b><i>", "<b><i><b><i></i></b></i></b>", "4@9 4@6 4@3 4@0");
        Check.read("<x><b><i></x></q><y>", "<x><b><i></i></b></x><y></y>", "4@6 4@3 3@13 4@17");
        Check.read("<p><b><i><p>t", "<p><b><i></i></b></p><p>t</p>", "4@6 4@3");
        Check.read(Check.times(20, "<b>"), Check.times(20, "<b>") + Check.times(20, "</b>"), fours(20));
    }

    /** "not an a by an a: that is 5, at the new one, behind the 4s of what lies in it" */
    private static void anAByAnA() {
        Check.read("<a>t<a>u</a>", "<a>t</a><a>u</a>", "5@4");
        Check.read("<a><b><i><a></a>", "<a><b><i></i></b></a><a></a>", "4@6 4@3 5@9");
        Check.read("<a><p><li><a></a>", "<a><p></p><li></li></a><a></a>", "5@10");
        Check.read("<a><a>", "<a></a><a></a>", "5@3 4@3");
        Check.read("<b><a></b><a></a>", "<b><a></a></b><a></a>", "4@3");
        Check.read("<p><a><div><a></a></div>", "<p><a></a></p><div><a></a></div>", "4@3");
    }

    /** "6 no room for a NODE (120)" "it is gone" */
    private static void moreThan120() {
        for (int count = 118; count <= 122; count++) {
            Soup x = new Soup();
            Check.due(count + " br", Check.page(x, Check.times(count, "<br>")), Math.min(count + 1, 120));
            Check.due("faults of " + count, x.faults(), Math.max(0, count - 119));
            Check.due("which", x.fault(0, 0), count > 119 ? 6 : -1);
            Check.due("its PLACE", x.fault(0, 1), count > 119 ? 4 * 119 : -1);
            Check.due("the last of them", x.fault(count - 120, 1), count > 119 ? 4 * (count - 1) : -1);
        }
        Soup x = new Soup();
        Check.due("an ELEMENT that would be open", Check.page(x, Check.times(119, "<br>") + "<b>"), 120);
        Check.due("is not", Check.faults(x), "6@476");
        Check.due("what it closes goes though", Check.page(x, "<p>" + Check.times(118, "<br>") + "<p>t"), 120);
        Check.due("the text is none of the p's", Check.faults(x), "6@475 6@478");
        Check.page(x, "<a>" + Check.times(118, "<br>") + "<a>");
        Check.due("an a by an a", Check.faults(x), "5@475 6@475");
    }

    /** "of text at the run's first byte" */
    private static void textsWithoutRoom() {
        String full = Check.times(119, "<br>");
        Soup x = new Soup();
        Check.due("a run", Check.page(x, full + " \ntt"), 120);
        Check.due("its FAULT", Check.faults(x), "6@476");
        Check.page(x, full + "t<!---->u</q>v");
        Check.due("each run", Check.faults(x), "6@476 6@484 3@485 6@489");
        Check.page(x, full + " <!---->\n");
        Check.due("blanks alone need no room", Check.faults(x), "");
        Check.page(x, full + Check.times(500, "t"));
        Check.due("no FAULT 7 of what is gone", Check.faults(x), "6@476");
        Check.due("what joins needs none", Check.page(x, Check.times(118, "<br>") + "t<!---->u"), 120);
        Check.due("no FAULT", Check.faults(x), "");
        Check.due("the bytes", Check.named(x, 119), "tu");
    }

    /** "or it would lie more than 20 deep (THE ROOT 0)" */
    private static void moreThan20Deep() {
        for (int depth = 18; depth <= 23; depth++) {
            Soup x = new Soup();
            Check.due(depth + " in one another", Check.page(x, Check.times(depth, "<b>")), Math.min(depth, 20) + 1);
            Check.due("all its faults", x.faults(), depth);
            Check.due("the first", x.fault(0, 0), depth > 20 ? 6 : 4);
            Check.due("its PLACE", x.fault(0, 1), depth > 20 ? 60 : 3 * (depth - 1));
            Check.due("the deepest", x.node(Math.min(depth, 20), 6), Math.min(depth, 20));
        }
        String open = Check.times(19, "<b>");
        String close = Check.times(19, "</b>");
        Check.read(open + "t<i></i><br>" + close, open + "t<i></i><br>" + close, "");
        Check.read(open + "<i>t</i>" + close, open + "<i></i>" + close, "6@60");
        Check.read(open + "<i> </i>" + close, open + "<i></i>" + close, "");
        Check.read(open + "<i><br></i>" + close, open + "<i></i>" + close, "6@60");
        Check.read(open + "<i><u></u></i>" + close, open + "<i></i>" + close, "6@60 3@63");
        Check.read(open + "<style>t</style>" + close, open + "<style></style>" + close, "6@64");
        // what it closes goes first, and makes it less deep
        Check.read(open + "<p><p></p>" + close, open + "<p></p><p></p>" + close, "");
        Check.read(open + "<li><li></li>" + close, open + "<li></li><li></li>" + close, "");
    }

    /** "what an ELEMENT would hold, of a style, too, is read on as of what is open, its end TAG as any" */
    private static void whatItWouldHold() {
        String full = Check.times(117, "<br>");
        Soup x = new Soup();
        Check.page(x, "<b>" + full + "t<i>u</i>v</b>");
        Check.due("text of an ELEMENT", Check.faults(x), "6@472 3@476");
        Check.due("is text of what is open", Check.named(x, 119), "tuv");
        Check.page(x, "<b>" + full + "t<b>u</b>v</b>");
        Check.due("its end TAG closes another", Check.faults(x), "6@472 6@480 3@481");
        Check.due("text of that", Check.named(x, 119), "tu");
        Check.page(x, "<b>" + full + "t<style>&lt;<!-- -->u</style>v</b>");
        Check.due("of a style", Check.faults(x), "6@472 3@492");
        Check.due("with ENTITIES and without COMMENTS", Check.named(x, 119), "t<uv");
    }

    /** "7 a TEXT of more than 400 bytes" "the rest is gone" */
    private static void moreThan400() {
        for (int bytes = 399; bytes <= 402; bytes++) {
            String text = Check.times(bytes, "x");
            String kept = Check.times(Math.min(bytes, 400), "x");
            Check.read(text, kept, bytes > 400 ? "7@400" : "");
            Check.read("<b>" + text + "</b>", "<b>" + kept + "</b>", bytes > 400 ? "7@403" : "");
            Check.read("<style>" + text + "</style>", "<style>" + kept + "</style>", bytes > 400 ? "7@407" : "");
            Check.read(text + "<br>y", kept + "<br>y", bytes > 400 ? "7@400" : "");
        }
        Check.read(Check.times(1500, "x"), FULL, "7@400");
    }

    /** "(at what would be the 401st" */
    private static void the401stByte() {
        String almost = FULL.substring(1);
        Check.read("&amp;" + almost, "&amp;" + almost, "");
        Check.read("&amp;" + almost + "y", "&amp;" + almost, "7@404");
        Check.read(almost + "&amp;", almost + "&amp;", "");
        Check.read(almost + "&amp;&quot;", almost + "&amp;", "7@404");
        Check.read(FULL + "&quot;y", FULL, "7@400");
        Check.read(FULL + "\n", FULL, "7@400");
        Check.read(FULL + "< y", FULL, "7@400");
        Check.read(almost + "<!---->yz", almost + "y", "7@407");
        Check.read(FULL + "<!---->", FULL, "");
        Check.read(FULL + "<!----> ", FULL, "7@407");
        Check.read(FULL + "</q>y", FULL, "3@400 7@404");
        Check.read("<style>" + FULL + "&amp;</style>", "<style>" + FULL + "</style>", "7@407");
    }

    /** "once for a TEXT" */
    private static void onceForAText() {
        Check.read(FULL + "y<!---->y<!---->y", FULL, "7@400");
        Check.read(FULL + "y</q>y", FULL, "7@400 3@401");
        Check.read(FULL + "y<br>" + FULL + "y", FULL + "<br>" + FULL, "7@400 7@805");
        Check.read(FULL + "y<b>" + FULL + "y</b>", FULL + "<b>" + FULL + "</b>", "7@400 7@804");
        Soup x = new Soup();
        Check.page(x, FULL + "y");
        Check.page(x, FULL + "y");
        Check.due("of the next page's TEXT too", Check.faults(x), "7@400");
        Check.page(x, FULL);
        Check.due("not of one that has 400", Check.faults(x), "");
    }

    /** "those of a TAG's ATTRIBUTES ahead of its others" */
    private static void attributesAheadOfOthers() {
        Check.read("<p><b><hr a a>", "<p><b></b></p><hr a=\"\">", "2@12 4@3");
        Check.read("<a><b><a c c></a>", "<a><b></b></a><a c=\"\"></a>", "2@11 4@3 5@6");
        Check.read(Check.times(20, "<b>") + "<i a a>", Check.times(20, "<b>") + Check.times(20, "</b>"),
            "2@65 6@60 " + fours(20));
        Check.read("<x a a>", "<x a=\"\"></x>", "2@5 4@0");
    }
}
