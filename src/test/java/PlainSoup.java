import java.util.ArrayList;
import java.util.LinkedHashMap;
import java.util.List;
import java.util.Map;
import java.util.regex.Matcher;
import java.util.regex.Pattern;

/** The document read a second time, with the Java library's texts, maps and patterns: what RandomRunsTest compares with. */
final class PlainSoup {
    private static final List<String> TAGS = List.of("div", "p", "h1", "ul", "li", "form", "span", "a", "b", "i", "br", "hr",
        "img", "input", "button", "style");
    private static final List<String> EMPTY = List.of("br", "hr", "img", "input");
    private static final List<String> BLOCK = List.of("div", "p", "h1", "ul", "li", "form", "hr");
    private static final Pattern NAME = Pattern.compile("[a-z][a-z0-9]{0,7}");
    private static final Pattern SIGN = Pattern.compile("<!--|</?[A-Za-z]");
    private static final Pattern COMMENT = Pattern.compile("<!--.*?-->", Pattern.DOTALL);
    private static final String ATTRIBUTE =
        "([^\n />][^=\n />]*+)(?:=(?>\"([^\"]*+)\"|'([^']*+)'|(?![\"'])([^\n >]*+))|(?!=))";
    private static final Pattern ONE_ATTRIBUTE = Pattern.compile(ATTRIBUTE);
    private static final Pattern TAG =
        Pattern.compile("<(/?)([A-Za-z][A-Za-z0-9]*+)((?:[\n /]|(?>" + ATTRIBUTE + "))*+)>");

    private static final class Item {
        int number;
        String tag;
        Item up;
        final List<Item> kids = new ArrayList<>();
        final Map<String, String> attributes = new LinkedHashMap<>();
        String text;
        boolean tooLong;
        int place;

        int depth() {
            return up == null ? 0 : up.depth() + 1;
        }
    }

    private String tape = "";
    private String out = "";
    private Item[] items;
    private List<int[]> faults = new ArrayList<>();
    private String page;
    private int at;
    private Item open;

    PlainSoup() {
        plant();
    }

    private void plant() {
        items = new Item[120];
        items[0] = new Item();
        items[0].tag = "div";
    }

    int feed(int... ints) {
        if (tape.length() > 1980) {
            return -1;
        }
        StringBuilder more = new StringBuilder(tape);
        for (int four : ints) {
            for (int shift = 24; shift >= 0; shift -= 8) {
                more.append((char) (four >> shift & 255));
            }
        }
        tape = more.toString();
        return tape.length();
    }

    int end(int n) {
        if (n < 0 || n > tape.length()) {
            return -1;
        }
        tape = tape.substring(0, n);
        return n;
    }

    int tapeLength() {
        return tape.length();
    }

    int out(int i) {
        return i >= 0 && i < out.length() ? out.charAt(i) : -1;
    }

    private String take() {
        String text = tape;
        tape = "";
        return text;
    }

    private static int bytesWrong(String text) {
        Matcher bad = Pattern.compile("[^\n -~]").matcher(text);
        return bad.find() ? -1000 - bad.start() : 0;
    }

    private static int nameWrong(String text) {
        Matcher name = NAME.matcher(text);
        int end = name.lookingAt() ? name.end() : 0;
        return bytesWrong(text) != 0 ? bytesWrong(text) : end > 0 && end == text.length() ? 0 : -1000 - end;
    }

    private Item item(int n) {
        return n >= 0 && n < 120 ? items[n] : null;
    }

    private Item element(int n) {
        return item(n) != null && item(n).text == null ? item(n) : null;
    }

    private int count() {
        int count = 0;
        for (Item item : items) {
            count += item == null ? 0 : 1;
        }
        return count;
    }

    private int write(String text) {
        out = text.substring(0, Math.min(8000, text.length()));
        return out.length();
    }

    int node(int n, int what) {
        Item item = item(n);
        if (item == null || what < 0 || what > 6) {
            return -1;
        }
        boolean isText = item.text != null;
        int tag = isText ? 17 : TAGS.contains(item.tag) ? TAGS.indexOf(item.tag) : 16;
        int[] answers = {tag, item.up == null ? -1 : item.up.number, item.kids.size(),
            item.up == null ? 0 : item.up.kids.indexOf(item), item.attributes.size(), isText ? item.text.length() : 0,
            item.depth()};
        return answers[what];
    }

    int kid(int n, int i) {
        Item item = item(n);
        return item == null || i < 0 || i >= item.kids.size() ? -1 : item.kids.get(i).number;
    }

    int name(int n) {
        Item item = item(n);
        return item == null ? -1 : write(item.text != null ? item.text : item.tag);
    }

    int attribute(int n) {
        String text = take();
        if (nameWrong(text) != 0) {
            return nameWrong(text);
        }
        return element(n) == null || !element(n).attributes.containsKey(text) ? -1 : write(element(n).attributes.get(text));
    }

    int serialise(int n) {
        return item(n) == null ? -1 : write(whole(item(n)));
    }

    private static String whole(Item item) {
        if (item.text != null) {
            return item.up.tag.equals("style") ? item.text : escaped(item.text);
        }
        StringBuilder all = new StringBuilder("<" + item.tag);
        item.attributes.forEach((name, value) -> all.append(" " + name + "=\"" + escaped(value) + "\""));
        all.append(">");
        item.kids.forEach(kid -> all.append(whole(kid)));
        return all + (EMPTY.contains(item.tag) ? "" : "</" + item.tag + ">");
    }

    private static String escaped(String text) {
        return text.replace("&", "&amp;").replace("<", "&lt;").replace(">", "&gt;").replace("\"", "&quot;");
    }

    private static String meant(String text) {
        return text.replace("&lt;", "<").replace("&gt;", ">").replace("&quot;", "\"").replace("&amp;", "&");
    }

    int fault(int i, int what) {
        return i >= 0 && i < 40 && i < faults.size() && (what == 0 || what == 1) ? faults.get(i)[what] : -1;
    }

    int faults() {
        return faults.size();
    }

    private Item come(Item into, String tag, String text) {
        for (int n = 0; n < 120 && into.depth() < 20; n++) {
            if (items[n] == null) {
                items[n] = new Item();
                items[n].number = n;
                items[n].tag = tag;
                items[n].text = text;
                items[n].up = into;
                into.kids.add(items[n]);
                return items[n];
            }
        }
        return null;
    }

    private void go(Item item) {
        clear(item);
        item.up.kids.remove(item);
        items[item.number] = null;
    }

    private void clear(Item item) {
        while (!item.kids.isEmpty()) {
            go(item.kids.get(item.kids.size() - 1));
        }
    }

    int add(int n) {
        String text = take();
        if (nameWrong(text) != 0) {
            return nameWrong(text);
        }
        Item into = element(n);
        Item come = into == null || EMPTY.contains(into.tag) ? null : come(into, text, null);
        return come == null ? -1 : come.number;
    }

    int text(int n) {
        String text = take();
        if (bytesWrong(text) != 0) {
            return bytesWrong(text);
        }
        Item into = element(n);
        if (into == null || EMPTY.contains(into.tag) || into.depth() == 20
            || into.kids.isEmpty() && count() == 120 && !text.isEmpty()) {
            return -1;
        }
        clear(into);
        if (!text.isEmpty()) {
            come(into, null, text.substring(0, Math.min(400, text.length())));
        }
        return count();
    }

    int set(int n) {
        String text = take();
        Matcher name = NAME.matcher(text);
        int end = name.lookingAt() ? name.end() : 0;
        if (bytesWrong(text) != 0) {
            return bytesWrong(text);
        }
        if (end == 0 || !text.startsWith("=", end)) {
            return -1000 - end;
        }
        String key = text.substring(0, end);
        Item item = element(n);
        if (item == null || item.attributes.size() == 4 && !item.attributes.containsKey(key)) {
            return -1;
        }
        item.attributes.put(key, text.substring(end + 1, Math.min(end + 61, text.length())));
        return item.attributes.size();
    }

    int remove(int n) {
        if (n == 0 || item(n) == null) {
            return -1;
        }
        go(item(n));
        return count();
    }

    int find(int behind) {
        String text = take();
        if (nameWrong(text) != 0) {
            return nameWrong(text);
        }
        List<Item> all = new ArrayList<>();
        list(items[0], all);
        int from = behind == -1 ? 0 : item(behind) == null ? all.size() : all.indexOf(item(behind)) + 1;
        for (Item item : all.subList(from, all.size())) {
            if (item.text == null && item.tag.equals(text)) {
                return item.number;
            }
        }
        return -1;
    }

    private static void list(Item item, List<Item> all) {
        all.add(item);
        item.kids.forEach(kid -> list(kid, all));
    }

    int page() {
        String text = take();
        if (bytesWrong(text) != 0 || text.length() > 1500) {
            return bytesWrong(text) != 0 ? bytesWrong(text) : -1;
        }
        plant();
        faults = new ArrayList<>();
        page = text;
        at = 0;
        open = items[0];
        while (at < page.length()) {
            step();
        }
        while (open.up != null) {
            close(true);
        }
        return count();
    }

    private void step() {
        boolean style = open.tag.equals("style");
        Matcher sign = SIGN.matcher(page);
        int next = style ? page.indexOf("</style", at) : sign.find(at) ? sign.start() : -1;
        int end = next < 0 ? page.length() : next;
        if (end > at) {
            run(page.substring(at, end), style);
        }
        at = end;
        if (at == page.length()) {
            return;
        }
        Matcher whole = (page.startsWith("<!--", at) ? COMMENT : TAG).matcher(page).region(at, page.length());
        if (!whole.lookingAt()) {
            tell(1, at);
            at = page.length();
            return;
        }
        if (whole.pattern() == TAG) {
            tag(whole);
        }
        at = whole.end();
    }

    private void tell(int which, int place) {
        faults.add(new int[] {which, place});
    }

    private void run(String run, boolean style) {
        Item last = open.kids.isEmpty() ? null : open.kids.get(open.kids.size() - 1);
        if (last == null || last.text == null) {
            if (run.isBlank()) {
                return;
            }
            last = come(open, null, "");
            if (last == null) {
                tell(6, at);
                return;
            }
        }
        int before = last.text.length();
        String bytes = last.text + (style ? run : meant(run));
        if (bytes.length() > 400 && !last.tooLong) {
            last.tooLong = true;
            tell(7, at + placeOf(400 - before, run, style));
        }
        last.text = bytes.substring(0, Math.min(400, bytes.length()));
    }

    /** Where in a run its byte of a number stands: behind the longest beginning that means so many bytes. */
    private static int placeOf(int number, String run, boolean style) {
        Matcher piece = Pattern.compile("&(?:lt|gt|amp|quot);|.", Pattern.DOTALL).matcher(run);
        for (int i = 0; i < number && !style; i++) {
            piece.find();
        }
        return style ? number : number == 0 ? 0 : piece.end();
    }

    private static String cut(String name) {
        return name.toLowerCase().substring(0, Math.min(8, name.length()));
    }

    private void tag(Matcher whole) {
        String name = cut(whole.group(2));
        if (!whole.group(1).isEmpty()) {
            endTag(name);
            return;
        }
        Map<String, String> given = new LinkedHashMap<>();
        Matcher one = ONE_ATTRIBUTE.matcher(page).region(whole.start(3), whole.end(3));
        while (one.find()) {
            String key = cut(one.group(1));
            if (given.containsKey(key) || given.size() == 4) {
                tell(2, one.start());
                continue;
            }
            String value = "";
            for (int g = 2; g <= 4; g++) {
                value = one.group(g) == null ? value : meant(one.group(g));
            }
            given.put(key, value.substring(0, Math.min(60, value.length())));
        }
        start(name, given);
    }

    private Item openOne(String name) {
        Item item = open;
        while (item.up != null && !item.tag.equals(name)) {
            item = item.up;
        }
        return item.up == null ? null : item;
    }

    private void close(boolean told) {
        if (told && !open.tag.equals("p") && !open.tag.equals("li")) {
            tell(4, open.place);
        }
        open = open.up;
    }

    private void closeAllIn(Item item) {
        while (open != item) {
            close(true);
        }
    }

    private void endTag(String name) {
        Item mine = EMPTY.contains(name) ? null : openOne(name);
        if (mine == null) {
            tell(3, at);
            return;
        }
        closeAllIn(mine);
        close(false);
    }

    private void start(String name, Map<String, String> given) {
        if (BLOCK.contains(name) && openOne("p") != null) {
            closeAllIn(openOne("p"));
            close(false);
        }
        Item li = name.equals("li") ? openOne("li") : null;
        if (li != null && (openOne("ul") == null || openOne("ul").depth() < li.depth())) {
            closeAllIn(li);
            close(false);
        }
        if (name.equals("a") && openOne("a") != null) {
            closeAllIn(openOne("a"));
            close(false);
            tell(5, at);
        }
        Item come = come(open, name, null);
        if (come == null) {
            tell(6, at);
            return;
        }
        come.attributes.putAll(given);
        come.place = at;
        if (!EMPTY.contains(name)) {
            open = come;
        }
    }
}
