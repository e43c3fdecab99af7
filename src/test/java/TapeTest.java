/** Promises 2, 3 and 4: feed, end and out; and what the Terms say of texts and THE TAPE. */
public final class TapeTest {
    public static void main(String[] args) {
        highestByteFirst();
        room();
        ends();
        outs();
        wrongBytes();
        emptyBehindTexts();
        keptBehindOthers();
        Check.close();
    }

    private static void highestByteFirst() {
        Soup x = new Soup();
        Check.due("first feed", x.feed(0x61626364, 0x65666768, 0x696a6b6c, 0x6d6e6f70, 0x71727374), 20);
        Check.due("second feed", x.feed(0x75767778, 0x797a3031, 0x32333435, 0x36373839, 0x21232425), 40);
        Check.due("text(0)", x.text(0), 2);
        Check.due("the bytes as fed", Check.named(x, 1), "abcdefghijklmnopqrstuvwxyz0123456789!#$%");
    }

    private static void room() {
        Soup x = new Soup();
        for (int i = 1; i <= 100; i++) {
            Check.due("feed " + i, x.feed(0, 0, 0, 0, 0), 20 * i);
        }
        Check.due("a feed too many", x.feed(0, 0, 0, 0, 0), -1);
        Check.due("end(2001)", x.end(2001), -1);
        Check.due("end(2000)", x.end(2000), 2000);
        Check.due("end(1981)", x.end(1981), 1981);
        Check.due("feed of 20 to 1981", x.feed(0, 0, 0, 0, 0), -1);
        Check.due("end(1981) again", x.end(1981), 1981);
        Check.due("end(1980)", x.end(1980), 1980);
        Check.due("feed of 20 to 1980", x.feed(0, 0, 0, 0, 0), 2000);
    }

    private static void ends() {
        Soup x = new Soup();
        Check.due("end(0) of nothing", x.end(0), 0);
        Check.due("end(1) of nothing", x.end(1), -1);
        x.feed(0x61626364, 0x65666768, 0x696a6b6c, 0x6d6e6f70, 0x71727374);
        Check.due("end(-1)", x.end(-1), -1);
        Check.due("end(least)", x.end(Integer.MIN_VALUE), -1);
        Check.due("end(greatest)", x.end(Integer.MAX_VALUE), -1);
        Check.due("end(21)", x.end(21), -1);
        Check.due("end(20)", x.end(20), 20);
        Check.due("end(3)", x.end(3), 3);
        Check.due("end(4) behind end(3)", x.end(4), -1);
        Check.due("feed behind end", x.feed(0x30313233, 0, 0, 0, 0), 23);
        Check.due("end(5)", x.end(5), 5);
        x.text(0);
        Check.due("what end left, and what was fed behind it", Check.named(x, 1), "abc01");
    }

    private static void outs() {
        Soup x = new Soup();
        Check.due("out(0) at first", x.out(0), -1);
        Check.page(x, "<p a=xy b>hello");
        x.name(2);
        Check.due("out", Check.out(x), "hello");
        Check.due("out(4)", x.out(4), 'o');
        Check.due("out(5)", x.out(5), -1);
        Check.due("out(-1)", x.out(-1), -1);
        Check.due("out(least)", x.out(Integer.MIN_VALUE), -1);
        Check.due("out(greatest)", x.out(Integer.MAX_VALUE), -1);
        Check.due("name of none such", x.name(9), -1);
        Check.due("serialise of none such", x.serialise(9), -1);
        Check.due("attribute of none such", Check.attribute(x, 9, "a"), -1);
        Check.due("no such attribute", Check.attribute(x, 1, "c"), -1);
        Check.due("WRONG attribute", Check.attribute(x, 1, "C"), -1000);
        Check.due("out stays where nothing is written", Check.out(x), "hello");
        Check.attribute(x, 1, "a");
        Check.due("out is the latest alone", Check.out(x), "xy");
        Check.page(x, "other");
        Check.due("out stays behind a page", Check.out(x), "xy");
        Check.page(x, "<p b>");
        Check.due("attribute of no bytes", Check.attribute(x, 1, "b"), 0);
        Check.due("out of no bytes", Check.out(x), "");
    }

    private static void wrongBytes() {
        for (int b = 0; b < 256; b++) {
            Soup x = new Soup();
            boolean good = b == 10 || b >= 32 && b <= 126;
            String text = "ab" + (char) b + "\u0001";
            int want = good ? -1003 : -1002;
            Check.due("page with byte " + b, Check.page(x, text), want);
            Check.due("text with byte " + b, Check.text(x, 0, text), want);
            Check.due("add with byte " + b, Check.add(x, 0, text), want);
            Check.due("set with byte " + b, Check.set(x, 0, text), want);
            Check.due("find with byte " + b, Check.find(x, -1, text), want);
            Check.due("attribute with byte " + b, Check.attribute(x, 0, text), want);
            Check.due("page good but for byte " + b, Check.page(x, "ab" + (char) b), good ? 2 : -1002);
        }
        Soup x = new Soup();
        Check.due("bad byte ahead of an earlier WRONG", Check.add(x, 0, "1bc\u007f"), -1003);
        Check.due("bad byte ahead of an earlier WRONG", Check.set(x, 0, "1=c\u0009"), -1003);
        Check.due("bad byte ahead of no such NODE", Check.text(x, 77, "abc\u0009"), -1003);
        Check.due("bad byte ahead of too long", Check.page(x, Check.times(1999, "x") + "\u0000"), -2999);
        Check.due("the highest byte", Check.page(x, "\u00ff"), -1000);
    }

    private static void emptyBehindTexts() {
        String[] texts = {"b", "", "B", "b=1", "\u0000", Check.times(1501, "x")};
        int[] nodes = {0, 50, -1};
        for (String text : texts) {
            for (int n : nodes) {
                Soup x = new Soup();
                Check.page(x, text);
                Check.due("end(1) behind page of " + text, x.end(1), -1);
                Check.attribute(x, n, text);
                Check.due("end(1) behind attribute of " + text, x.end(1), -1);
                Check.add(x, n, text);
                Check.due("end(1) behind add of " + text, x.end(1), -1);
                Check.set(x, n, text);
                Check.due("end(1) behind set of " + text, x.end(1), -1);
                Check.find(x, n, text);
                Check.due("end(1) behind find of " + text, x.end(1), -1);
                Check.text(x, n, text);
                Check.due("end(1) behind text of " + text, x.end(1), -1);
            }
        }
    }

    private static void keptBehindOthers() {
        Soup x = new Soup();
        Check.page(x, "<p>a<b>c");
        Check.tape(x, "kept");
        x.out(0);
        x.node(0, 0);
        x.kid(0, 0);
        x.name(1);
        x.serialise(0);
        x.fault(0, 0);
        x.faults();
        x.remove(1);
        Check.due("text(0)", x.text(0), 2);
        Check.due("THE TAPE behind calls that take no text", Check.named(x, 1), "kept");
    }
}
