import java.util.ArrayDeque;
import java.util.ArrayList;
import java.util.Deque;
import java.util.Iterator;
import java.util.LinkedHashMap;
import java.util.List;
import java.util.Map;
import java.util.Set;
import java.util.regex.Matcher;
import java.util.regex.Pattern;

/**
 * The document a second time, by other means than the class: expressions for what a text may be,
 * trees for tables, and texts for the print and the report. Slow, and only for comparing.
 */
final class Model {
    private static final Set<String> ENVELOPES = Set.of("UNB", "UNZ", "UNG", "UNE", "UNH", "UNT");
    private static final String MARK = "[!-/:-@\\[-`{-~]";
    private static final Pattern HEAD = Pattern.compile("UNA(" + MARK + ")((?!\\1)" + MARK
            + ")[ -~]( |(?!\\1|\\2)" + MARK + ") ((?!\\1|\\2|\\3)" + MARK + ")");

    /** An item of a table; a group if it has a list. */
    private static final class Item {
        String tag;
        List<Item> list;
        boolean must;
        int most;
    }

    private static final class Table {
        final List<Item> own = new ArrayList<>();
        final Deque<List<Item>> open = new ArrayDeque<>();
        int items = 0;

        Table() {
            open.push(own);
        }
    }

    /** Where a match stands in one list. */
    private static final class Frame {
        final List<Item> list;
        int at;
        int n = 0;

        Frame(List<Item> list, int at) {
            this.list = list;
            this.at = at;
        }
    }

    private static final class Message {
        int first;
        int last;
        int group = -1;
        int code = 0;
        int place = -1;
    }

    private static final class Group {
        String reference;
        int code;
    }

    private String text = "";
    private final Table[] tables = {new Table(), new Table(), new Table(), new Table()};
    private int fault = -1;
    private List<List<List<String>>> segments = null;
    private List<Message> messages;
    private List<Group> groups;
    private int code;
    private String print;
    private String report;

    boolean type(long part) {
        StringBuilder more = new StringBuilder(text);
        for (byte b : java.nio.ByteBuffer.allocate(8).putLong(part).array()) {
            if (b != 0) {
                if (b < 32 || b == 127) {
                    return false;
                }
                more.append((char) b);
            }
        }
        if (more.length() > 400) {
            return false;
        }
        text = more.toString();
        return true;
    }

    void wipe() {
        text = "";
    }

    int length() {
        return text.length();
    }

    private Table tableOf(int type) {
        if (type < 0 || type > 3) {
            throw new IllegalArgumentException();
        }
        return tables[type];
    }

    private static String letters(int tag) {
        return new String(new char[] {(char) (tag / 65536), (char) (tag / 256 % 256), (char) (tag % 256)});
    }

    private int add(Table table, Item item) {
        if (item.most < 1 || item.most > 99) {
            throw new IllegalArgumentException();
        }
        boolean first = table.open.size() > 1 && table.open.peek().isEmpty();
        boolean trigger = item.list == null && item.must && item.most == 1;
        if (table.items == 24 || first && !trigger) {
            throw new IllegalStateException();
        }
        if (item.list != null && table.open.size() == 4) {
            throw new IllegalStateException();
        }
        table.open.peek().add(item);
        if (item.list != null) {
            table.open.push(item.list);
        }
        return ++table.items;
    }

    int slot(int type, int tag, boolean must, int most) {
        Table table = tableOf(type);
        if (tag < 0 || tag >= 1 << 24 || !letters(tag).matches("[A-Z]{3}") || ENVELOPES.contains(letters(tag))) {
            throw new IllegalArgumentException();
        }
        Item item = new Item();
        item.tag = letters(tag);
        item.must = must;
        item.most = most;
        return add(table, item);
    }

    int open(int type, boolean must, int most) {
        Item item = new Item();
        item.list = new ArrayList<>();
        item.must = must;
        item.most = most;
        return add(tableOf(type), item);
    }

    boolean close(int type) {
        Table table = tableOf(type);
        if (table.open.size() == 1 || table.open.peek().isEmpty()) {
            return false;
        }
        table.open.pop();
        return true;
    }

    boolean clear(int type) {
        if (tableOf(type).items == 0) {
            return false;
        }
        tables[type] = new Table();
        return true;
    }

    private static String oneOf(String... marks) {
        StringBuilder all = new StringBuilder("[");
        for (String mark : marks) {
            all.append(mark.isEmpty() ? "" : "\\" + mark);
        }
        return all.append("]").toString();
    }

    /** The marks that stand at the front of a text, or the usual ones: component, element, release, end. */
    private static String[] marksOf(String some) {
        Matcher head = HEAD.matcher(some);
        if (!some.startsWith("UNA")) {
            return new String[] {":", "+", "?", "'"};
        }
        return head.lookingAt()
                ? new String[] {head.group(1), head.group(2), head.group(3).trim(), head.group(4)}
                : null;
    }

    /** 0 if no text as said begins so, 1 if one does, 2 if this is one. */
    private static int fineness(String some) {
        String[] marks = marksOf(some);
        if (marks == null) {
            Matcher head = HEAD.matcher(some);
            head.matches();
            return head.hitEnd() ? 1 : 0;
        }
        String rest = some.startsWith("UNA") ? some.substring(9) : some;
        String released = marks[2].isEmpty() ? "" : "|\\" + marks[2] + "[ -~]";
        String component = "(?:(?!" + oneOf(marks) + ")[ -~]" + released + ")*+";
        String element = "\\" + marks[1] + component + "(?:\\" + marks[0] + component + ")*+";
        Matcher whole = Pattern.compile("(?:[A-Z]{3}(?:" + element + ")*+\\" + marks[3] + "){1,40}+").matcher(rest);
        boolean matches = whole.matches();
        boolean more = whole.hitEnd();
        if (componentsIn(rest, marks) > 120) {
            return 0;
        }
        return matches ? 2 : more ? 1 : 0;
    }

    private static int componentsIn(String rest, String[] marks) {
        String plain = marks[2].isEmpty() ? rest : rest.replaceAll("\\" + marks[2] + "[ -~]", "");
        return plain.replaceAll("[^\\" + marks[0] + "\\" + marks[1] + "]", "").length();
    }

    private static List<List<List<String>>> split(String some) {
        String[] marks = marksOf(some);
        List<List<List<String>>> all = new ArrayList<>();
        StringBuilder now = new StringBuilder();
        List<String> element = new ArrayList<>();
        List<List<String>> segment = new ArrayList<>();
        for (int i = some.startsWith("UNA") ? 9 : 0; i < some.length(); i++) {
            String c = some.substring(i, i + 1);
            if (c.equals(marks[2])) {
                i++;
                now.append(some.charAt(i));
                continue;
            }
            if (!List.of(marks[0], marks[1], marks[3]).contains(c)) {
                now.append(c);
                continue;
            }
            element.add(now.toString());
            now.setLength(0);
            if (!c.equals(marks[0])) {
                segment.add(element);
                element = new ArrayList<>();
            }
            if (c.equals(marks[3])) {
                all.add(segment);
                segment = new ArrayList<>();
            }
        }
        return all;
    }

    /** The tag counts as element -1 here. */
    private static String get(List<List<String>> segment, int e) {
        return e + 1 < segment.size() ? segment.get(e + 1).get(0) : "";
    }

    private static String shape(List<List<List<String>>> all) {
        StringBuilder tags = new StringBuilder();
        for (List<List<String>> segment : all) {
            String tag = get(segment, -1);
            tags.append(ENVELOPES.contains(tag) ? tag.charAt(2) : '.');
        }
        return tags.toString();
    }

    int read() {
        fault = -1;
        if (fineness(text) != 2) {
            fault = text.length();
            while (fineness(text.substring(0, fault)) == 0) {
                fault--;
            }
            throw new IllegalArgumentException();
        }
        List<List<List<String>>> all = split(text);
        String shape = shape(all);
        if (!shape.matches("B((H\\.*T)+|(G(H\\.*T)+E)+)Z")) {
            throw new UnsupportedOperationException();
        }
        text = "";
        segments = all;
        judge(shape);
        writePrint();
        return messages.size();
    }

    private static int ended(String reference, List<List<String>> end, int count) {
        int wrong = reference.isEmpty() || !reference.equals(get(end, 1)) ? 1 : 0;
        return wrong + (get(end, 0).equals(Integer.toString(count)) ? 0 : 2);
    }

    private void judge(String shape) {
        messages = new ArrayList<>();
        groups = new ArrayList<>();
        Map<String, Integer> seen = new LinkedHashMap<>();
        int inGroup = 0;
        Message message = null;
        for (int s = 0; s < segments.size(); s++) {
            List<List<String>> segment = segments.get(s);
            switch (shape.charAt(s)) {
                case 'G':
                    groups.add(new Group());
                    groups.get(groups.size() - 1).reference = get(segment, 0);
                    inGroup = 0;
                    break;
                case 'E':
                    Group group = groups.get(groups.size() - 1);
                    group.code = ended(group.reference, segment, inGroup);
                    break;
                case 'H':
                    message = new Message();
                    message.first = s;
                    message.group = groups.size() - 1;
                    messages.add(message);
                    inGroup++;
                    break;
                case 'T':
                    message.last = s;
                    judge(message, seen);
                    seen.put(get(segments.get(message.first), 0), s);
                    break;
                default:
                    break;
            }
        }
        int counted = groups.isEmpty() ? messages.size() : groups.size();
        code = ended(get(segments.get(0), 2), segments.get(segments.size() - 1), counted);
        writeReport();
    }

    private void judge(Message message, Map<String, Integer> seen) {
        List<List<String>> first = segments.get(message.first);
        int end = ended(get(first, 0), segments.get(message.last), message.last - message.first + 1);
        boolean typed = get(first, 1).matches("[0-3]");
        if (end != 0) {
            message.code = end == 2 ? 2 : 1;
            message.place = message.last;
        } else if (seen.containsKey(get(first, 0))) {
            message.code = 7;
            message.place = message.first;
        } else if (!typed || tables[Integer.parseInt(get(first, 1))].items == 0) {
            message.code = 3;
            message.place = message.first;
        } else {
            match(message, tables[Integer.parseInt(get(first, 1))]);
        }
    }

    private void match(Message message, Table table) {
        Deque<Frame> frames = new ArrayDeque<>();
        frames.push(new Frame(table.own, 0));
        for (int s = message.first + 1; s < message.last; s++) {
            int error = step(frames, get(segments.get(s), -1));
            if (error != 0) {
                message.code = error;
                message.place = s;
                return;
            }
        }
        for (Iterator<Frame> all = frames.iterator(); all.hasNext(); ) {
            Frame frame = all.next();
            for (int k = frame.at; k < frame.list.size(); k++) {
                if (frame.list.get(k).must && (k > frame.at || frame.n == 0)) {
                    message.code = 5;
                    message.place = message.last;
                }
            }
        }
    }

    private static int step(Deque<Frame> frames, String tag) {
        while (true) {
            Frame top = frames.peek();
            if (top.at == top.list.size()) {
                if (frames.size() == 1) {
                    return 4;
                }
                frames.pop();
                continue;
            }
            Item item = top.list.get(top.at);
            String due = item.list == null ? item.tag : item.list.isEmpty() ? "" : item.list.get(0).tag;
            if (due.equals(tag)) {
                if (top.n == item.most) {
                    return 6;
                }
                top.n++;
                if (item.list != null) {
                    frames.push(new Frame(item.list, 1));
                }
                return 0;
            }
            if (item.must && top.n == 0) {
                return 5;
            }
            top.at++;
            top.n = 0;
        }
    }

    private static String released(String component) {
        return component.replaceAll("[:+?']", "?$0");
    }

    private void writePrint() {
        StringBuilder all = new StringBuilder();
        for (List<List<String>> segment : segments) {
            StringBuilder line = new StringBuilder();
            for (List<String> element : segment) {
                StringBuilder some = new StringBuilder();
                for (String component : element) {
                    // Marks as control characters first, so that they are told from released ones.
                    some.append('\1').append(released(component));
                }
                line.append('\2').append(some.substring(1).replaceAll("\1+$", ""));
            }
            all.append(line.substring(1).replaceAll("\2+$", "").replace('\1', ':').replace('\2', '+')).append("'");
        }
        print = all.toString();
    }

    private void writeReport() {
        List<String> lines = new ArrayList<>();
        lines.add("UCI+" + released(get(segments.get(0), 2)) + "+" + code);
        for (int g = -1; g < groups.size(); g++) {
            if (g >= 0) {
                lines.add("UCF+" + released(groups.get(g).reference) + "+" + groups.get(g).code);
            }
            for (Message m : messages) {
                if (m.group == g) {
                    lines.add("UCM+" + released(get(segments.get(m.first), 0)) + "+" + m.code
                            + (m.code == 0 ? "" : "+" + m.place));
                }
            }
        }
        report = String.join("'", lines) + "'";
    }

    int fault() {
        return fault;
    }

    private void need() {
        if (segments == null) {
            throw new IllegalStateException();
        }
    }

    int interchange(int which) {
        need();
        int[] all = {segments.size(), messages.size(), groups.size(), code};
        return which >= 0 && which < 4 ? all[which] : -1;
    }

    int message(int i, int w) {
        need();
        if (i < 0 || i >= messages.size() || w < 0 || w > 3) {
            return -1;
        }
        Message m = messages.get(i);
        return new int[] {m.code, m.place, m.last - m.first + 1, m.group}[w];
    }

    int group(int g) {
        need();
        return g >= 0 && g < groups.size() ? groups.get(g).code : -1;
    }

    int segment(int s, int e, int c, int i) {
        need();
        if (s < 0 || s >= segments.size() || e < -2) {
            return -1;
        }
        List<List<String>> segment = segments.get(s);
        if (e == -2) {
            String tag = get(segment, -1);
            return 65536 * tag.charAt(0) + 256 * tag.charAt(1) + tag.charAt(2);
        }
        if (e == -1) {
            return segment.size() - 1;
        }
        if (e >= segment.size() - 1 || c < -1) {
            return -1;
        }
        List<String> element = segment.get(e + 1);
        if (c == -1) {
            return element.size();
        }
        return c < element.size() ? in(element.get(c), i) : -1;
    }

    private static int in(String all, int i) {
        return i == -1 ? all.length() : i >= 0 && i < all.length() ? all.charAt(i) : -1;
    }

    int print(int i) {
        need();
        return in(print, i);
    }

    int report(int i) {
        need();
        return in(report, i);
    }
}
