/** The edges of Part I (TEXTS) and of promises 1 to 4; above each test stands the sentence that it tests. */
public final class TextEdgesTest {
    private static final String[] CALLS = {"page", "attribute", "add", "text", "set", "find"};
    private static final int LEAST = Integer.MIN_VALUE;
    private static final int GREATEST = Integer.MAX_VALUE;

    public static void main(String[] args) {
        lastCallOfAnObject();
        newObject();
        tapeHasAtMost2000();
        feedTheHighestFirst();
        feedRefused();
        endAtItsEdges();
        bytesBehindTheEnd();
        outAtFirst();
        outOfTheLatest();
        bytesOfTexts();
        wrongBytesAheadOfAll();
        namesOf1To8();
        bytesOfNames();
        wrongPlaces();
        emptyTapeWhateverIsAnswered();
        wrongTextsChangeNothing();
        Check.close();
    }

    /** "An object is used for at most 512 calls after it has been made" */
    private static void lastCallOfAnObject() {
        SoupReader x = new SoupReader();
        for (int i = 0; i < 508; i++) {
            Check.due("call " + i, x.node(0, 6), 0);
        }
        Check.due("call 509", x.feed(0x3c623e78, 0, 0, 0, 0), 20);
        Check.due("call 510", x.end(4), 4);
        Check.due("call 511", x.page(), 3);
        Check.due("call 512", x.serialise(0), "<div><b>x</b></div>".length());
        SoupReader y = new SoupReader();
        for (int i = 1; i <= 512; i++) {
            Check.due("feed " + i, y.feed(i, i, i, i, i), i <= 100 ? 20 * i : -1);
        }
    }

    /** "THE ROOT alone; no FAULTS." */
    private static void newObject() {
        Check.due("a new object", Check.state(new Soup()), "OUT  FAULTS 0  NODES 0: 0,-1,0,0,0,0,0 <div></div>");
        Check.due("faults()", new Soup().faults(), 0);
        Check.due("fault(0, 0)", new Soup().fault(0, 0), -1);
        Check.due("node(1, 0)", new Soup().node(1, 0), -1);
    }

    private static Soup tapeOf(int bytes) {
        Soup x = new Soup();
        Check.tape(x, Check.times(bytes, "t"));
        return x;
    }

    /** "THE TAPE has bytes, at most 2000." */
    private static void tapeHasAtMost2000() {
        Soup x = tapeOf(2000);
        Check.due("all 2000 are there", x.again().end(2000), 2000);
        Check.due("and no more", x.again().end(2001), -1);
        Check.due("all of them are good", x.text(0), 2);
        Soup y = tapeOf(1980);
        Check.due("the last twenty", y.feed(0x74747474, 0x74747474, 0x74747474, 0x74747474, 0x74747401), 2000);
        Check.due("the 2000th byte is read", y.text(0), -2999);
    }

    /** "Twenty bytes come behind those on THE TAPE, the highest of each int first" */
    private static void feedTheHighestFirst() {
        for (int place = 0; place < 20; place++) {
            int[] five = {0x61616161, 0x61616161, 0x61616161, 0x61616161, 0x61616161};
            // the byte there is 0x80 or more, so that its int is below 0 where it is the highest
            five[place / 4] |= 0x80 << 24 - place % 4 * 8;
            Soup x = new Soup();
            Check.tape(x, "abc");
            Check.due("feed", x.feed(five[0], five[1], five[2], five[3], five[4]), 23);
            Check.due("a bad byte at " + place, x.page(), -1003 - place);
        }
        Soup x = new Soup();
        Check.due("feed(-1, ..)", x.feed(-1, -1, -1, -1, -1), 20);
        Check.due("bytes of 255", x.page(), -1000);
    }

    /** "NONE, and none come, if there would be more than 2000." */
    private static void feedRefused() {
        for (int bytes = 1978; bytes <= 2000; bytes++) {
            Soup x = tapeOf(bytes);
            boolean room = bytes <= 1980;
            Check.due("feed to " + bytes, x.feed(0, 0, 0, 0, 0), room ? bytes + 20 : -1);
            Check.due("one more than " + bytes, x.again().end(bytes + 1), room ? bytes + 1 : -1);
            Check.due("as many as before", x.end(bytes), bytes);
            Check.due("none of them changed", x.text(0), 2);
        }
        Soup x = tapeOf(2000);
        Check.due("feed to a full tape", x.feed(0, 0, 0, 0, 0), -1);
        Check.due("again", x.feed(0, 0, 0, 0, 0), -1);
        x.page();
        Check.due("feed to a tape that is empty again", x.feed(0, 0, 0, 0, 0), 20);
    }

    /** "THE TAPE has its first n bytes alone: n; NONE if there are not so many, or n is below 0." */
    private static void endAtItsEdges() {
        for (int bytes : new int[] {0, 1, 19, 20, 1999, 2000}) {
            Soup x = tapeOf(bytes);
            for (int n : new int[] {bytes + 1, 2001, -1, -2, LEAST, GREATEST, LEAST + 1}) {
                Check.due("end(" + n + ") of " + bytes, x.end(n), -1);
            }
            Check.due("a refused end takes none off " + bytes, x.end(bytes), bytes);
            Check.due("end(0) of " + bytes, x.end(0), 0);
            Check.due("none are left of " + bytes, x.end(1), -1);
        }
        Soup x = new Soup();
        Check.tape(x, "abcdef");
        Check.due("end(5)", x.end(5), 5);
        Check.due("the sixth does not come again", x.end(6), -1);
        x.text(0);
        Check.due("the first five", Check.named(x, 1), "abcde");
        Soup y = new Soup();
        Check.tape(y, "abc\u0001");
        y.end(3);
        Check.due("a bad byte that was cut off", y.text(0), 2);
    }

    /** "THE TAPE has its first n bytes alone": those that were behind them are nowhere seen */
    private static void bytesBehindTheEnd() {
        String[] texts = {"t&lt;u&gt;v&amp;w&quot;x", "t<!--u-->v", "<style>t</style>u", "<b c='d' e=\"f\" g=h i>t</b j>u",
            "abcdefgh=value", "b1=&lt;", "li", "t<br>u", "</b>t", "<p>t<p>u</p>v"};
        for (String text : texts) {
            for (int n = 0; n <= text.length(); n++) {
                for (String call : CALLS) {
                    Soup cut = new Soup();
                    Check.page(cut, "<b li=1>t</b><li></li>");
                    Soup given = cut.again();
                    Check.tape(cut, text);
                    cut.end(n);
                    String told = call + " of '" + text.substring(0, n) + "' cut from '" + text + "'";
                    Check.due(told, Check.askOfTape(call, cut, 1), Check.ask(call, given, 1, text.substring(0, n)));
                    Check.due("all behind " + told, Check.state(cut), Check.state(given));
                }
            }
        }
    }

    /** "Byte i of THE OUT (what was written there latest, at first nothing); NONE if there is none such." */
    private static void outAtFirst() {
        Soup x = new Soup();
        for (int i : new int[] {0, 1, -1, 7999, 8000, LEAST, GREATEST}) {
            Check.due("out(" + i + ") at first", x.out(i), -1);
        }
        Check.page(x, "<b a=1>t");
        Check.add(x, 0, "b");
        Check.set(x, 1, "c=d");
        Check.find(x, -1, "b");
        x.remove(2);
        Check.due("out(0) where nothing was written yet", x.out(0), -1);
    }

    /** "what was written there latest" */
    private static void outOfTheLatest() {
        Soup x = new Soup();
        Check.page(x, "<b none one=1>longer</b>");
        x.name(2);
        Check.due("the last byte", x.out(5), 'r');
        Check.due("behind it", x.out(6), -1);
        Check.attribute(x, 1, "one");
        Check.due("of one byte: it", x.out(0), '1');
        Check.due("of one byte: behind it", x.out(1), -1);
        Check.attribute(x, 1, "none");
        Check.due("of no bytes", x.out(0), -1);
        Check.due("ahead of the first", x.out(-1), -1);
        x.name(1);
        x.remove(1);
        Check.due("it stays when its NODE goes", Check.out(x), "b");
    }

    /** "Bytes of texts are 10 and 32 .. 126 (another one is WRONG" */
    private static void bytesOfTexts() {
        for (int b = 0; b < 256; b++) {
            boolean good = b == 10 || b >= 32 && b <= 126;
            for (int place : new int[] {0, 1, 19, 20, 399, 400, 401}) {
                Soup x = new Soup();
                String text = Check.times(place, "t") + (char) b;
                Check.due("text with byte " + b + " at " + place, Check.text(x, 0, text), good ? 2 : -1000 - place);
            }
            Soup x = new Soup();
            Check.due("set with byte " + b, Check.set(x, 0, "a=" + Check.times(70, "v") + (char) b), good ? 1 : -1072);
            Check.due("page with byte " + b, Check.page(x, "t" + (char) b + "t"), good ? 2 : -1001);
            Check.due("page with byte " + b + " in a COMMENT", Check.page(x, "<!--" + (char) b + "-->"), good ? 1 : -1004);
        }
    }

    /** "another one is WRONG, ahead of all else" */
    private static void wrongBytesAheadOfAll() {
        Soup x = new Soup();
        // 1 br, 2 TEXT, 3 x with four
        Check.page(x, "<br>t<x a b c d></x>");
        for (String call : CALLS) {
            for (int n : new int[] {0, 1, 2, 3, 4, -1, -2, 120, LEAST, GREATEST}) {
                Check.due(call + " in " + n + ", of a bad byte", Check.ask(call, x.again(), n, "e=\u007f"), -1002);
                Check.due(call + " in " + n + ", of a bad byte first", Check.ask(call, x.again(), n, "\u001f="), -1000);
            }
            Check.due(call + " of what is no NAME, too", Check.ask(call, x.again(), 0, "A b\u0009"), -1003);
            Check.due(call + " of two bad bytes", Check.ask(call, x.again(), 0, "a\u000b\u0000"), -1001);
            Check.due(call + " of 2000 bytes", Check.ask(call, x.again(), 0, Check.times(1999, "x") + "\u0080"), -2999);
        }
    }

    /** "A NAME: a small letter, then small letters and digits, 1 to 8 in all." */
    private static void namesOf1To8() {
        String[] good = {"a", "z", "ab", "a9", "z0z0z0z", "abcdefgh", "a1234567", "zzzzzzzz"};
        for (String name : good) {
            Soup x = new Soup();
            Check.due("add of " + name, Check.add(x, 0, name), 1);
            Check.due("its NAME", Check.named(x, 1), name);
            Check.due("find of " + name, Check.find(x, -1, name), 1);
            Check.due("set of " + name, Check.set(x, 1, name + "=v"), 1);
            Check.due("attribute of " + name, Check.attribute(x, 1, name), 1);
        }
        String[] bad = {"", "abcdefghi", "a12345678", "abcdefgh0123456789"};
        int[] places = {0, 8, 8, 8};
        for (int i = 0; i < bad.length; i++) {
            for (String call : new String[] {"add", "find", "attribute"}) {
                Check.due(call + " of '" + bad[i] + "'", Check.ask(call, new Soup(), 0, bad[i]), -1000 - places[i]);
            }
            Check.due("set of '" + bad[i] + "='", Check.set(new Soup(), 0, bad[i] + "=v"), -1000 - places[i]);
        }
        Check.due("add of 2000 letters", Check.add(new Soup(), 0, Check.times(2000, "a")), -1008);
        Check.due("set of 2000 letters", Check.set(new Soup(), 0, Check.times(2000, "a")), -1008);
    }

    /** "WRONG at the first byte with which it can't go on to be a NAME." */
    private static void bytesOfNames() {
        for (char b = 32; b <= 126; b++) {
            boolean letter = b >= 'a' && b <= 'z';
            boolean digit = b >= '0' && b <= '9';
            for (String call : new String[] {"add", "find", "attribute"}) {
                int good = call.equals("add") ? 1 : -1;
                Check.due(call + " of " + b, Check.ask(call, new Soup(), 0, "" + b), letter ? good : -1000);
                Check.due(call + " of a" + b, Check.ask(call, new Soup(), 0, "a" + b), letter || digit ? good : -1001);
                Check.due(call + " of abcdefg" + b, Check.ask(call, new Soup(), 0, "abcdefg" + b),
                    letter || digit ? good : -1007);
                Check.due(call + " of abcdefgh" + b, Check.ask(call, new Soup(), 0, "abcdefgh" + b), -1008);
                Check.due(call + " of a" + b + "A", Check.ask(call, new Soup(), 0, "a" + b + "A"),
                    letter || digit ? -1002 : -1001);
            }
            Check.due("set of " + b + "=", Check.set(new Soup(), 0, b + "="), letter ? 1 : -1000);
            Check.due("set of a" + b + "=", Check.set(new Soup(), 0, "a" + b + "="), letter || digit || b == '=' ? 1 : -1001);
            Check.due("set of abcdefgh" + b, Check.set(new Soup(), 0, "abcdefgh" + b), b == '=' ? 1 : -1008);
        }
    }

    /** "WRONG: -1000 less a place of the text." */
    private static void wrongPlaces() {
        for (int place : new int[] {0, 1, 1499, 1500, 1501, 1998, 1999}) {
            String text = Check.times(place, "t") + "\u0001";
            Check.due("text WRONG at " + place, Check.text(new Soup(), 0, text), -1000 - place);
            Check.due("page WRONG at " + place, Check.page(new Soup(), text), -1000 - place);
        }
    }

    /** "Behind a text's call the tape is empty, whatever it answers." */
    private static void emptyTapeWhateverIsAnswered() {
        String[] texts = {"", "b", "a=1", "e=1", "B", "bb ", "b\u0001", Check.times(400, "t"), Check.times(1501, "t"),
            Check.times(2000, "t")};
        for (String call : CALLS) {
            for (String text : texts) {
                for (int n : new int[] {0, 1, 2, 3, 4, -1, 120}) {
                    Soup x = new Soup();
                    Check.page(x, "<br>t<x a b c d></x>");
                    int answer = Check.ask(call, x, n, text);
                    String told = call + " in " + n + " of '" + text + "', which answered " + answer;
                    Check.due("end(1) behind " + told, x.end(1), -1);
                    Check.due("end(0) behind " + told, x.end(0), 0);
                    Check.due("feed behind " + told, x.feed(0, 0, 0, 0, 0), 20);
                }
            }
        }
    }

    /** "WRONG texts change nothing." */
    private static void wrongTextsChangeNothing() {
        Soup x = new Soup();
        Check.page(x, "</q><b a=1>t<i>u</i></b><br>v");
        x.name(2);
        for (String call : CALLS) {
            Check.refused(call, x.again(), 1, "ab\u0001", -1002);
            Check.refused(call, x.again(), 0, "\u00ff", -1000);
            Check.refused(call, x.again(), 1, "a=\u0000", -1002);
        }
        for (String call : new String[] {"attribute", "add", "set", "find"}) {
            Check.refused(call, x.again(), 1, "", -1000);
            Check.refused(call, x.again(), 1, "A", -1000);
            Check.refused(call, x.again(), 1, "a b", -1001);
            Check.refused(call, x.again(), 1, "abcdefghi", -1008);
        }
    }
}
