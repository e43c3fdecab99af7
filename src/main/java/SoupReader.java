/** A reader of pages that are never quite right: TAGS, ATTRIBUTES, FAULTS, and the tree that comes of them. */
public final class SoupReader {
    public static final int NONE = -1;

    private static final int WRONG = -1000;
    private static final int TAPE_ROOM = 2000;
    private static final int BYTES_OF_A_FEED = 20;
    private static final int PAGE_ROOM = 1500;
    private static final int OUT_ROOM = 8000;
    private static final int NODE_ROOM = 120;
    private static final int DEEPEST = 20;
    private static final int ATTRIBUTE_ROOM = 4;
    private static final int VALUE_ROOM = 60;
    private static final int TEXT_ROOM = 400;
    private static final int NAME_ROOM = 8;
    private static final int FAULTS_TOLD = 40;

    /** In the order of their numbers; a blank behind each ends it. */
    private static final String TAG_NAMES =
        "div p h1 ul li form span a b i br hr img input button style ";
    /** As longer() keeps it: d, i, v. */
    private static final long DIV_NAME = 0x646976L;
    private static final int DIV = 0;
    private static final int P = 1;
    private static final int UL = 3;
    private static final int LI = 4;
    private static final int FORM = 5;
    private static final int A = 7;
    private static final int BR = 10;
    private static final int HR = 11;
    private static final int INPUT = 13;
    private static final int STYLE = 15;
    private static final int OTHER = 16;
    private static final int TEXT = 17;

    private static final String COMMENT_START = "<!--";
    private static final String COMMENT_END = "-->";
    private static final String STYLE_END = "</style";

    private static final int NOT_ENDED = 1;
    private static final int ATTRIBUTE_TOO_MUCH = 2;
    private static final int NOTHING_TO_CLOSE = 3;
    private static final int CLOSED_BY_OTHERS = 4;
    private static final int A_IN_A = 5;
    private static final int NO_ROOM = 6;
    private static final int TEXT_TOO_LONG = 7;

    private final Tape tape;
    private final Out written;
    private final Faults told;
    private final Tree tree;
    private final PageReader reader;

    public SoupReader() {
        tape = new Tape();
        written = new Out();
        told = new Faults();
        tree = new Tree();
        reader = new PageReader(tape, tree, told);
    }

    public int feed(int a, int b, int c, int d, int e) {
        if (tape.length + BYTES_OF_A_FEED > TAPE_ROOM) {
            return NONE;
        }
        tape.pushInt(a);
        tape.pushInt(b);
        tape.pushInt(c);
        tape.pushInt(d);
        tape.pushInt(e);
        return tape.length;
    }

    public int end(int n) {
        if (n < 0 || n > tape.length) {
            return NONE;
        }
        tape.length = n;
        return n;
    }

    public int out(int i) {
        return written.byteAt(i);
    }

    public int page() {
        int bad = tape.badPlace();
        int answer = NONE;
        if (bad != NONE) {
            answer = WRONG - bad;
        } else if (tape.length <= PAGE_ROOM) {
            reader.readAll();
            answer = tree.count;
        }
        tape.length = 0;
        return answer;
    }

    public int node(int n, int what) {
        Node node = tree.nodeAt(n);
        if (node == null) {
            return NONE;
        }
        switch (what) {
            case 0: return node.tag;
            case 1: return node.up == null ? NONE : node.up.number;
            case 2: return node.kidCount();
            case 3: return node.rank();
            case 4: return node.attributes.count;
            case 5: return node.length;
            case 6: return node.depth;
            default: return NONE;
        }
    }

    public int kid(int n, int i) {
        Node node = tree.nodeAt(n);
        if (node == null || i < 0) {
            return NONE;
        }
        int left = i;
        for (Node kid = node.first; kid != null; kid = kid.next) {
            if (left == 0) {
                return kid.number;
            }
            left--;
        }
        return NONE;
    }

    public int name(int n) {
        Node node = tree.nodeAt(n);
        if (node == null) {
            return NONE;
        }
        written.length = 0;
        if (node.tag == TEXT) {
            written.putBytes(node.bytes, node.length);
        } else {
            written.putName(node.tagName);
        }
        return written.length;
    }

    public int attribute(int n) {
        int answer = writeValue(n);
        tape.length = 0;
        return answer;
    }

    public int serialise(int n) {
        Node node = tree.nodeAt(n);
        if (node == null) {
            return NONE;
        }
        written.length = 0;
        writeNode(node, 0);
        return written.length;
    }

    public int fault(int i, int what) {
        if (what == 0) {
            return told.kindOf(i);
        }
        return what == 1 ? told.placeOf(i) : NONE;
    }

    public int faults() {
        return told.count;
    }

    public int add(int n) {
        int answer = addElement(n);
        tape.length = 0;
        return answer;
    }

    public int text(int n) {
        int answer = replaceByText(n);
        tape.length = 0;
        return answer;
    }

    public int set(int n) {
        int answer = setAttribute(n);
        tape.length = 0;
        return answer;
    }

    public int remove(int n) {
        Node node = tree.nodeAt(n);
        if (node == null || node.up == null) {
            return NONE;
        }
        tree.drop(node);
        return tree.count;
    }

    public int find(int behind) {
        int answer = findElement(behind);
        tape.length = 0;
        return answer;
    }

    private int writeValue(int n) {
        int wrong = tape.wrongAsName();
        if (wrong != 0) {
            return wrong;
        }
        Node node = tree.elementAt(n);
        if (node == null) {
            return NONE;
        }
        Attribute attribute = node.attributes.named(tape.packed(tape.length));
        if (attribute == null) {
            return NONE;
        }
        written.length = 0;
        written.putBytes(attribute.value, attribute.length);
        return written.length;
    }

    private int addElement(int n) {
        int wrong = tape.wrongAsName();
        if (wrong != 0) {
            return wrong;
        }
        Node into = tree.elementAt(n);
        if (into == null || isEmptyTag(into.tag)) {
            return NONE;
        }
        long name = tape.packed(tape.length);
        Node come = tree.grow(into, tagOf(name), name);
        return come == null ? NONE : come.number;
    }

    private int replaceByText(int n) {
        int bad = tape.badPlace();
        if (bad != NONE) {
            return WRONG - bad;
        }
        Node into = tree.elementAt(n);
        if (into == null || isEmptyTag(into.tag) || into.depth >= DEEPEST) {
            return NONE;
        }
        if (tape.length > 0 && into.first == null && tree.count >= NODE_ROOM) {
            return NONE;
        }
        tree.dropAllIn(into);
        if (tape.length > 0) {
            Node come = tree.grow(into, TEXT, 0);
            if (come != null) {
                come.takeBytes(tape.bytes, tape.length);
            }
        }
        return tree.count;
    }

    private int setAttribute(int n) {
        int wrong = tape.wrongAsSetting();
        if (wrong != 0) {
            return wrong;
        }
        Node node = tree.elementAt(n);
        if (node == null) {
            return NONE;
        }
        int nameLength = tape.nameLength();
        long name = tape.packed(nameLength);
        Attribute attribute = node.attributes.named(name);
        if (attribute == null) {
            attribute = node.attributes.grow(name);
        }
        if (attribute == null) {
            return NONE;
        }
        attribute.length = 0;
        for (int i = nameLength + 1; i < tape.length; i++) {
            attribute.put(tape.byteAt(i));
        }
        return node.attributes.count;
    }

    private int findElement(int behind) {
        int wrong = tape.wrongAsName();
        if (wrong != 0) {
            return wrong;
        }
        Node node = tree.nodeAt(0);
        if (behind != NONE) {
            Node start = tree.nodeAt(behind);
            node = start == null ? null : start.nextInTree();
        }
        long name = tape.packed(tape.length);
        for (int seen = 0; seen < NODE_ROOM && node != null; seen++) {
            if (node.tag != TEXT && node.tagName == name) {
                return node.number;
            }
            node = node.nextInTree();
        }
        return NONE;
    }

    private void writeNode(Node node, int level) {
        if (level > DEEPEST) {
            return;
        }
        if (node.tag == TEXT) {
            writeText(node);
            return;
        }
        writeStartTag(node);
        for (Node kid = node.first; kid != null; kid = kid.next) {
            writeNode(kid, level + 1);
        }
        if (!isEmptyTag(node.tag)) {
            written.put('<');
            written.put('/');
            written.putName(node.tagName);
            written.put('>');
        }
    }

    private void writeText(Node node) {
        if (node.up != null && node.up.tag == STYLE) {
            written.putBytes(node.bytes, node.length);
        } else {
            written.putEscaped(node.bytes, node.length);
        }
    }

    private void writeStartTag(Node node) {
        written.put('<');
        written.putName(node.tagName);
        for (int i = 0; i < node.attributes.count; i++) {
            Attribute attribute = node.attributes.itemAt(i);
            if (attribute != null) {
                written.put(' ');
                written.putName(attribute.attributeName);
                written.put('=');
                written.put('"');
                written.putEscaped(attribute.value, attribute.length);
                written.put('"');
            }
        }
        written.put('>');
    }

    private static boolean isEmptyTag(int tag) {
        return tag >= BR && tag <= INPUT;
    }

    private static boolean isBlockTag(int tag) {
        return (tag >= DIV && tag <= FORM) || tag == HR;
    }

    private static int tagOf(long name) {
        int tag = 0;
        long word = 0;
        for (int i = 0; i < TAG_NAMES.length(); i++) {
            char c = TAG_NAMES.charAt(i);
            if (c != ' ') {
                word = longer(word, c);
            } else if (word == name) {
                return tag;
            } else {
                tag++;
                word = 0;
            }
        }
        return OTHER;
    }

    /** A NAME is kept in a long, its last byte lowest, so that two can be compared at once; a ninth byte is cut off. */
    private static long longer(long name, int b) {
        boolean full = name >>> (8 * (NAME_ROOM - 1)) != 0;
        return full ? name : name << 8 | b;
    }

    private static boolean isSmallLetter(int b) {
        return b >= 'a' && b <= 'z';
    }

    private static boolean isDigit(int b) {
        return b >= '0' && b <= '9';
    }

    private static boolean isBlank(int b) {
        return b == 10 || b == 32;
    }

    private static int asSmall(int b) {
        return b >= 'A' && b <= 'Z' ? b + ('a' - 'A') : b;
    }

    /** THE TAPE: what has been fed and not yet been used as a text. */
    private static final class Tape {
        final byte[] bytes = new byte[TAPE_ROOM];
        int length;

        void pushInt(int four) {
            pushByte(four >>> 24);
            pushByte(four >>> 16);
            pushByte(four >>> 8);
            pushByte(four);
        }

        private void pushByte(int b) {
            if (length >= 0 && length < bytes.length) {
                bytes[length] = (byte) b;
                length++;
            }
        }

        int byteAt(int i) {
            return i >= 0 && i < length && i < bytes.length ? bytes[i] & 255 : NONE;
        }

        boolean holds(String word, int from) {
            for (int i = 0; i < word.length(); i++) {
                if (byteAt(from + i) != word.charAt(i)) {
                    return false;
                }
            }
            return true;
        }

        int badPlace() {
            for (int i = 0; i < length; i++) {
                int b = byteAt(i);
                if (b != 10 && (b < 32 || b > 126)) {
                    return i;
                }
            }
            return NONE;
        }

        int nameLength() {
            int i = 0;
            while (i < NAME_ROOM && canBeInName(byteAt(i), i)) {
                i++;
            }
            return i;
        }

        private static boolean canBeInName(int b, int place) {
            return isSmallLetter(b) || (place > 0 && isDigit(b));
        }

        /** 0 if the text is a NAME, else the answer that tells what is WRONG. */
        int wrongAsName() {
            int bad = badPlace();
            if (bad != NONE) {
                return WRONG - bad;
            }
            int named = nameLength();
            return named > 0 && named == length ? 0 : WRONG - named;
        }

        /** 0 if the text is a NAME, = and a VALUE, else the answer that tells what is WRONG. */
        int wrongAsSetting() {
            int bad = badPlace();
            if (bad != NONE) {
                return WRONG - bad;
            }
            int named = nameLength();
            return named > 0 && byteAt(named) == '=' ? 0 : WRONG - named;
        }

        long packed(int count) {
            long name = 0;
            for (int i = 0; i < count && i < length; i++) {
                name = longer(name, byteAt(i));
            }
            return name;
        }
    }

    /** THE OUT: what is beyond its room is cut off. */
    private static final class Out {
        private final byte[] bytes = new byte[OUT_ROOM];
        int length;

        int byteAt(int i) {
            return i >= 0 && i < length && i < bytes.length ? bytes[i] & 255 : NONE;
        }

        void put(int b) {
            if (length >= 0 && length < bytes.length) {
                bytes[length] = (byte) b;
                length++;
            }
        }

        void putWord(String word) {
            for (int i = 0; i < word.length(); i++) {
                put(word.charAt(i));
            }
        }

        void putName(long name) {
            for (int shift = 8 * (NAME_ROOM - 1); shift >= 0; shift -= 8) {
                int b = (int) (name >>> shift) & 255;
                if (b != 0) {
                    put(b);
                }
            }
        }

        void putBytes(byte[] from, int count) {
            if (from == null) {
                return;
            }
            for (int i = 0; i < count && i < from.length; i++) {
                put(from[i]);
            }
        }

        void putEscaped(byte[] from, int count) {
            if (from == null) {
                return;
            }
            for (int i = 0; i < count && i < from.length; i++) {
                switch (from[i]) {
                    case '<': putWord("&lt;"); break;
                    case '>': putWord("&gt;"); break;
                    case '&': putWord("&amp;"); break;
                    case '"': putWord("&quot;"); break;
                    default: put(from[i]);
                }
            }
        }
    }

    /** All FAULTS of a page are counted, the first ones kept. */
    private static final class Faults {
        private final int[] kinds = new int[FAULTS_TOLD];
        private final int[] places = new int[FAULTS_TOLD];
        int count;

        void tell(int kind, int place) {
            if (isKept(count)) {
                kinds[count] = kind;
                places[count] = place;
            }
            count++;
        }

        int kindOf(int i) {
            return isKept(i) && i < count ? kinds[i] : NONE;
        }

        int placeOf(int i) {
            return isKept(i) && i < count ? places[i] : NONE;
        }

        private static boolean isKept(int i) {
            return i >= 0 && i < FAULTS_TOLD;
        }
    }

    private static final class Attribute {
        long attributeName;
        final byte[] value = new byte[VALUE_ROOM];
        int length;

        void begin(long name) {
            attributeName = name;
            length = 0;
        }

        void put(int b) {
            if (length >= 0 && length < value.length) {
                value[length] = (byte) b;
                length++;
            }
        }

        void takeValueOf(Attribute other) {
            length = 0;
            for (int i = 0; i < other.length && i < other.value.length; i++) {
                put(other.value[i]);
            }
        }
    }

    /** The ATTRIBUTES of an ELEMENT, or of a TAG that is being read; what was made for earlier ones is used again. */
    private static final class Attributes {
        private final Attribute[] items = new Attribute[ATTRIBUTE_ROOM];
        int count;

        Attribute itemAt(int i) {
            return i >= 0 && i < count && i < items.length ? items[i] : null;
        }

        Attribute named(long name) {
            for (int i = 0; i < count; i++) {
                Attribute item = itemAt(i);
                if (item != null && item.attributeName == name) {
                    return item;
                }
            }
            return null;
        }

        /** The new last one, with no bytes yet; null if it would be a fifth one. */
        Attribute grow(long name) {
            if (count < 0 || count >= items.length) {
                return null;
            }
            if (items[count] == null) {
                items[count] = new Attribute();
            }
            Attribute come = items[count];
            come.begin(name);
            count++;
            return come;
        }

        void copyFrom(Attributes other) {
            count = 0;
            for (int i = 0; i < other.count; i++) {
                Attribute from = other.itemAt(i);
                Attribute to = from == null ? null : grow(from.attributeName);
                if (to != null) {
                    to.takeValueOf(from);
                }
            }
        }
    }

    private static final class Node {
        final int number;
        final Attributes attributes = new Attributes();
        boolean used;
        int tag;
        long tagName;
        int depth;
        Node up;
        Node before;
        Node next;
        Node first;
        Node last;
        byte[] bytes;
        int length;
        boolean toldTooLong;

        Node(int number) {
            this.number = number;
        }

        void begin(int newTag, long newName) {
            used = true;
            tag = newTag;
            tagName = newName;
            depth = 0;
            up = null;
            before = null;
            next = null;
            first = null;
            last = null;
            attributes.count = 0;
            length = 0;
            toldTooLong = false;
            // made late: a NODE that is never a TEXT needs none
            if (tag == TEXT && bytes == null) {
                bytes = new byte[TEXT_ROOM];
            }
        }

        boolean putByte(int b) {
            if (bytes == null || length < 0 || length >= bytes.length) {
                return false;
            }
            bytes[length] = (byte) b;
            length++;
            return true;
        }

        void takeBytes(byte[] from, int count) {
            for (int i = 0; i < count && i < from.length; i++) {
                putByte(from[i]);
            }
        }

        void linkLast(Node kid) {
            kid.up = this;
            kid.depth = depth + 1;
            kid.before = last;
            if (last == null) {
                first = kid;
            } else {
                last.next = kid;
            }
            last = kid;
        }

        void unlink() {
            if (before != null) {
                before.next = next;
            } else if (up != null) {
                up.first = next;
            }
            if (next != null) {
                next.before = before;
            } else if (up != null) {
                up.last = before;
            }
        }

        int kidCount() {
            int count = 0;
            for (Node kid = first; kid != null; kid = kid.next) {
                count++;
            }
            return count;
        }

        int rank() {
            int count = 0;
            for (Node left = before; left != null; left = left.before) {
                count++;
            }
            return count;
        }

        Node nextInTree() {
            if (first != null) {
                return first;
            }
            for (Node above = this; above != null; above = above.up) {
                if (above.next != null) {
                    return above.next;
                }
            }
            return null;
        }
    }

    /** THE TREE: its NODES are made when first needed and used again. */
    private static final class Tree {
        private final Node[] nodes = new Node[NODE_ROOM];
        final Node root = new Node(0);
        int count;

        Tree() {
            nodes[0] = root;
            root.begin(DIV, DIV_NAME);
            count = 1;
        }

        void restart() {
            for (int i = 0; i < nodes.length; i++) {
                if (nodes[i] != null) {
                    nodes[i].used = false;
                }
            }
            root.begin(DIV, DIV_NAME);
            count = 1;
        }

        Node nodeAt(int n) {
            if (n < 0 || n >= nodes.length) {
                return null;
            }
            Node node = nodes[n];
            return node != null && node.used ? node : null;
        }

        Node elementAt(int n) {
            Node node = nodeAt(n);
            return node != null && node.tag != TEXT ? node : null;
        }

        /** The NODE that comes last in another; null if there is no room for it. */
        Node grow(Node into, int tag, long name) {
            if (into == null || into.depth >= DEEPEST) {
                return null;
            }
            int number = leastFree();
            if (number < 0 || number >= nodes.length) {
                return null;
            }
            if (nodes[number] == null) {
                nodes[number] = new Node(number);
            }
            Node come = nodes[number];
            come.begin(tag, name);
            into.linkLast(come);
            count++;
            return come;
        }

        private int leastFree() {
            for (int i = 0; i < nodes.length; i++) {
                if (nodes[i] == null || !nodes[i].used) {
                    return i;
                }
            }
            return NONE;
        }

        void drop(Node gone) {
            gone.unlink();
            release(gone, 0);
        }

        void dropAllIn(Node node) {
            for (Node kid = node.first; kid != null; kid = kid.next) {
                release(kid, 0);
            }
            node.first = null;
            node.last = null;
        }

        private void release(Node gone, int level) {
            if (level > DEEPEST) {
                return;
            }
            for (Node kid = gone.first; kid != null; kid = kid.next) {
                release(kid, level + 1);
            }
            gone.used = false;
            count--;
        }
    }

    /** Reads THE TAPE as a PAGE TEXT into THE TREE. */
    private static final class PageReader {
        private final Tape page;
        private final Tree tree;
        private final Faults faults;
        private final Attributes seen = new Attributes();
        private final Node[] open = new Node[DEEPEST + 1];
        private final int[] places = new int[DEEPEST + 1];
        private int openCount;
        private int at;

        PageReader(Tape page, Tree tree, Faults faults) {
            this.page = page;
            this.tree = tree;
            this.faults = faults;
        }

        void readAll() {
            tree.restart();
            faults.count = 0;
            open[0] = tree.root;
            openCount = 1;
            at = 0;
            for (int step = 0; step <= page.length && at < page.length; step++) {
                int from = at;
                boolean inStyle = tagOpenAt(openCount - 1) == STYLE;
                skipRun(inStyle);
                if (at > from) {
                    takeRun(from, at, !inStyle);
                }
                if (page.holds(COMMENT_START, at)) {
                    readComment();
                } else if (at < page.length) {
                    readTag();
                }
            }
            closeDownTo(1);
        }

        private void skipRun(boolean inStyle) {
            while (at < page.length && !endsRun(at, inStyle)) {
                at++;
            }
        }

        private boolean endsRun(int i, boolean inStyle) {
            if (inStyle) {
                return page.holds(STYLE_END, i);
            }
            return page.byteAt(i) == '<' && (startsTag(i) || page.holds(COMMENT_START, i));
        }

        private boolean startsTag(int i) {
            int letter = page.byteAt(i + 1) == '/' ? i + 2 : i + 1;
            return isSmallLetter(asSmall(page.byteAt(letter)));
        }

        private void takeRun(int from, int to, boolean entities) {
            Node text = textFor(from, to);
            if (text == null) {
                return;
            }
            int i = from;
            while (i < to) {
                int entity = entities ? entityAt(i) : NONE;
                if (!text.putByte(entity == NONE ? page.byteAt(i) : entity)) {
                    tellTooLong(text, i);
                    return;
                }
                i += widthOf(entity);
            }
        }

        /** The TEXT that a run comes to; null if the run is gone. */
        private Node textFor(int from, int to) {
            Node into = innermost();
            if (into != null && into.last != null && into.last.tag == TEXT) {
                return into.last;
            }
            if (isAllBlank(from, to)) {
                return null;
            }
            Node come = tree.grow(into, TEXT, 0);
            if (come == null) {
                faults.tell(NO_ROOM, from);
            }
            return come;
        }

        private boolean isAllBlank(int from, int to) {
            for (int i = from; i < to; i++) {
                if (!isBlank(page.byteAt(i))) {
                    return false;
                }
            }
            return true;
        }

        private void tellTooLong(Node text, int place) {
            if (!text.toldTooLong) {
                text.toldTooLong = true;
                faults.tell(TEXT_TOO_LONG, place);
            }
        }

        private void readComment() {
            for (int i = at + COMMENT_START.length(); i < page.length; i++) {
                if (page.holds(COMMENT_END, i)) {
                    at = i + COMMENT_END.length();
                    return;
                }
            }
            faults.tell(NOT_ENDED, at);
            at = page.length;
        }

        private void readTag() {
            int start = at;
            int toldBefore = faults.count;
            boolean isEnd = page.byteAt(start + 1) == '/';
            at = isEnd ? start + 2 : start + 1;
            long name = readTagName();
            seen.count = 0;
            for (int step = start; step < page.length && at < page.length && page.byteAt(at) != '>'; step++) {
                if (partsAttributes(page.byteAt(at))) {
                    at++;
                } else {
                    readAttribute(isEnd);
                }
            }
            if (at >= page.length) {
                // of a TAG that does not end no other FAULT stays told
                faults.count = toldBefore;
                faults.tell(NOT_ENDED, start);
                return;
            }
            at++;
            if (isEnd) {
                takeEndTag(name, start);
            } else {
                takeStartTag(name, start);
            }
        }

        private long readTagName() {
            long name = 0;
            while (at < page.length) {
                int b = asSmall(page.byteAt(at));
                if (!isSmallLetter(b) && !isDigit(b)) {
                    break;
                }
                name = longer(name, b);
                at++;
            }
            return name;
        }

        private static boolean partsAttributes(int b) {
            return isBlank(b) || b == '/';
        }

        private void readAttribute(boolean ofEndTag) {
            int first = at;
            long name = readAttributeName();
            // an end TAG never has one, so none of its own can be one too many
            Attribute come = ofEndTag ? null : takeAttribute(name, first);
            if (page.byteAt(at) == '=') {
                at++;
                readValue(come);
            }
        }

        /** The ATTRIBUTE that the TAG gets; null if it is gone. */
        private Attribute takeAttribute(long name, int place) {
            Attribute come = seen.named(name) == null ? seen.grow(name) : null;
            if (come == null) {
                faults.tell(ATTRIBUTE_TOO_MUCH, place);
            }
            return come;
        }

        /** Its first byte may be any, a = too. */
        private long readAttributeName() {
            long name = longer(0, asSmall(page.byteAt(at)));
            at++;
            while (at < page.length && !endsAttributeName(page.byteAt(at))) {
                name = longer(name, asSmall(page.byteAt(at)));
                at++;
            }
            return name;
        }

        private static boolean endsAttributeName(int b) {
            return b == '=' || b == '>' || partsAttributes(b);
        }

        /** Reads over a VALUE, and into an ATTRIBUTE if that is not gone. */
        private void readValue(Attribute into) {
            int quote = page.byteAt(at);
            boolean quoted = quote == '"' || quote == '\'';
            if (quoted) {
                at++;
            }
            while (at < page.length && !endsValue(page.byteAt(at), quoted, quote)) {
                int entity = entityAt(at);
                if (into != null) {
                    into.put(entity == NONE ? page.byteAt(at) : entity);
                }
                at += widthOf(entity);
            }
            if (quoted && at < page.length) {
                at++;
            }
        }

        private static boolean endsValue(int b, boolean quoted, int quote) {
            return quoted ? b == quote : isBlank(b) || b == '>';
        }

        /** The byte that the ENTITY there means; NONE if none stands there. */
        private int entityAt(int i) {
            if (page.byteAt(i) != '&') {
                return NONE;
            }
            if (page.holds("&lt;", i)) {
                return '<';
            }
            if (page.holds("&gt;", i)) {
                return '>';
            }
            if (page.holds("&amp;", i)) {
                return '&';
            }
            return page.holds("&quot;", i) ? '"' : NONE;
        }

        private static int widthOf(int entity) {
            switch (entity) {
                case '<': return "&lt;".length();
                case '>': return "&gt;".length();
                case '&': return "&amp;".length();
                case '"': return "&quot;".length();
                default: return 1;
            }
        }

        private void takeEndTag(long name, int place) {
            int which = isEmptyTag(tagOf(name)) ? 0 : innermostNamed(name);
            if (which == 0) {
                faults.tell(NOTHING_TO_CLOSE, place);
                return;
            }
            closeDownTo(which + 1);
            openCount = which;
        }

        private void takeStartTag(long name, int place) {
            int tag = tagOf(name);
            closeBefore(tag, place);
            Node come = tree.grow(innermost(), tag, name);
            if (come == null) {
                faults.tell(NO_ROOM, place);
                return;
            }
            come.attributes.copyFrom(seen);
            if (!isEmptyTag(tag)) {
                push(come, place);
            }
        }

        private void closeBefore(int tag, int place) {
            if (isBlockTag(tag) && innermostOf(P) > 0) {
                closeDownTo(innermostOf(P));
            }
            if (tag == LI && innermostOf(LI) > innermostOf(UL)) {
                closeDownTo(innermostOf(LI));
            }
            int outer = tag == A ? innermostOf(A) : 0;
            if (outer > 0) {
                closeDownTo(outer + 1);
                openCount = outer;
                faults.tell(A_IN_A, place);
            }
        }

        /** Closes the innermost ones till so many are open, by something else than their own end TAGS. */
        private void closeDownTo(int stay) {
            for (int i = openCount - 1; i >= stay; i--) {
                int tag = tagOpenAt(i);
                if (tag != P && tag != LI) {
                    faults.tell(CLOSED_BY_OTHERS, placeOpenAt(i));
                }
                openCount = i;
            }
        }

        private void push(Node node, int place) {
            if (openCount >= 0 && openCount < open.length && openCount < places.length) {
                open[openCount] = node;
                places[openCount] = place;
                openCount++;
            }
        }

        /** Where the innermost open one of a TAG is among those open; 0, which is THE ROOT, if none is. */
        private int innermostOf(int tag) {
            int i = openCount - 1;
            while (i > 0 && tagOpenAt(i) != tag) {
                i--;
            }
            return i;
        }

        private int innermostNamed(long name) {
            for (int i = openCount - 1; i > 0; i--) {
                Node node = openAt(i);
                if (node != null && node.tagName == name) {
                    return i;
                }
            }
            return 0;
        }

        private Node innermost() {
            return openAt(openCount - 1);
        }

        private int tagOpenAt(int i) {
            Node node = openAt(i);
            return node == null ? NONE : node.tag;
        }

        private int placeOpenAt(int i) {
            return i >= 0 && i < openCount && i < places.length ? places[i] : NONE;
        }

        private Node openAt(int i) {
            return i >= 0 && i < openCount && i < open.length ? open[i] : null;
        }
    }
}
