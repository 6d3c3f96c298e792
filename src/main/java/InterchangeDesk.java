/**
 * Takes interchanges of business messages apart, looks at each message by the table of its type,
 * prints the interchange anew in one form, and writes a report of what was taken and what was not.
 *
 * <p>Every row is made in the constructor and used again, so that no call but a throw makes an
 * object.
 */
public final class InterchangeDesk {

    /** There is none. */
    public static final int NONE = -1;

    private static final int TEXT_MOST = 400;
    private static final int SEGMENTS_MOST = 40;
    private static final int COMPONENTS_MOST = 120;
    // UNB and UNZ take two of the segments, a message at least two, a group two more.
    private static final int MESSAGES_MOST = 19;
    private static final int GROUPS_MOST = 9;

    private static final int TYPES = 4;
    private static final int ITEMS_MOST = 24;
    private static final int DEPTH_MOST = 3;
    private static final int TIMES_MOST = 99;

    // A character of the text becomes at most two of the print.
    private static final int PRINT_MOST = 2 * TEXT_MOST;
    // Beside its reference a message's line has at most 10 characters, any other line 7.
    private static final int REPORT_MOST = PRINT_MOST + 10 * MESSAGES_MOST + 7 * GROUPS_MOST + 7;

    private static final int COMPONENT_MARK = ':';
    private static final int ELEMENT_MARK = '+';
    private static final int RELEASE_MARK = '?';
    private static final int END_MARK = '\'';

    private static final int UNB = 'U' << 16 | 'N' << 8 | 'B';
    private static final int UNZ = 'U' << 16 | 'N' << 8 | 'Z';
    private static final int UNG = 'U' << 16 | 'N' << 8 | 'G';
    private static final int UNE = 'U' << 16 | 'N' << 8 | 'E';
    private static final int UNH = 'U' << 16 | 'N' << 8 | 'H';
    private static final int UNT = 'U' << 16 | 'N' << 8 | 'T';
    private static final int UCI = 'U' << 16 | 'C' << 8 | 'I';
    private static final int UCF = 'U' << 16 | 'C' << 8 | 'F';
    private static final int UCM = 'U' << 16 | 'C' << 8 | 'M';

    private static final int FINE = 0;
    private static final int WRONG_REFERENCE = 1;
    private static final int WRONG_COUNT = 2;
    private static final int NO_TABLE = 3;
    private static final int NO_ITEM = 4;
    private static final int MISSING = 5;
    private static final int TOO_OFTEN = 6;
    private static final int REPEATED = 7;

    private final Text text = new Text();
    private final Table[] tables = new Table[TYPES];
    private final Paper printed = new Paper(PRINT_MOST);
    private final Paper reported = new Paper(REPORT_MOST);
    // A read works in fresh, and changes it for kept only when nothing can go wrong any more.
    private Envelopes kept = new Envelopes();
    private Envelopes fresh = new Envelopes();
    private boolean hasInterchange = false;
    private int faultPlace = NONE;

    public InterchangeDesk() {
        for (int k = 0; k < tables.length; k++) {
            tables[k] = new Table();
        }
    }

    public boolean type(long part) {
        int more = 0;
        for (int shift = 56; shift >= 0; shift -= 8) {
            int c = byteOf(part, shift);
            if (c != 0) {
                if (c < 32 || c > 126) {
                    return false;
                }
                more++;
            }
        }
        if (text.size() + more > TEXT_MOST) {
            return false;
        }
        for (int shift = 56; shift >= 0; shift -= 8) {
            int c = byteOf(part, shift);
            if (c != 0) {
                text.add(c);
            }
        }
        return true;
    }

    public void wipe() {
        text.empty();
    }

    public int length() {
        return text.size();
    }

    public int slot(int type, int tag, boolean must, int most)
            throws IllegalArgumentException, IllegalStateException {
        Table table = tableOf(type);
        if (table == null || !isTag(tag) || isEnvelopeTag(tag) || !isMost(most)) {
            throw new IllegalArgumentException("no such type, tag or most");
        }
        if (table.isFull() || table.wantsTrigger() && !(must && most == 1)) {
            throw new IllegalStateException("the table is full, or a trigger is due");
        }
        return table.addSegment(tag, must, most);
    }

    public int open(int type, boolean must, int most)
            throws IllegalArgumentException, IllegalStateException {
        Table table = tableOf(type);
        if (table == null || !isMost(most)) {
            throw new IllegalArgumentException("no such type or most");
        }
        if (table.isFull() || table.isDeepest() || table.wantsTrigger()) {
            throw new IllegalStateException("the table is full or deep, or a trigger is due");
        }
        return table.addGroup(must, most);
    }

    public boolean close(int type) throws IllegalArgumentException {
        Table table = tableOf(type);
        if (table == null) {
            throw new IllegalArgumentException("no such type");
        }
        return table.closeList();
    }

    public boolean clear(int type) throws IllegalArgumentException {
        Table table = tableOf(type);
        if (table == null) {
            throw new IllegalArgumentException("no such type");
        }
        if (table.isEmpty()) {
            return false;
        }
        table.empty();
        return true;
    }

    public int read() throws IllegalArgumentException, UnsupportedOperationException {
        faultPlace = text.takeApart(fresh.parts);
        if (faultPlace != NONE) {
            throw new IllegalArgumentException("the text is not segments");
        }
        if (!fresh.fit()) {
            throw new UnsupportedOperationException("the envelopes do not fit");
        }
        fresh.judgeEnds();
        for (int m = 0; m < fresh.messageCount(); m++) {
            fresh.judgeMessage(m, tableOf(fresh.typeOf(m)));
        }
        Envelopes before = kept;
        kept = fresh;
        fresh = before;
        hasInterchange = true;
        text.empty();
        printed.writePrint(kept.parts);
        reported.writeReport(kept);
        return kept.messageCount();
    }

    public int fault() {
        return faultPlace;
    }

    public int interchange(int which) throws IllegalStateException {
        needInterchange();
        switch (which) {
            case 0:
                return kept.parts.segmentCount();
            case 1:
                return kept.messageCount();
            case 2:
                return kept.groupCount();
            case 3:
                return kept.code();
            default:
                return NONE;
        }
    }

    public int message(int i, int w) throws IllegalStateException {
        needInterchange();
        return kept.ofMessage(i, w);
    }

    public int group(int g) throws IllegalStateException {
        needInterchange();
        return kept.codeOfGroup(g);
    }

    public int segment(int s, int e, int c, int i) throws IllegalStateException {
        needInterchange();
        return kept.parts.look(s, e, c, i);
    }

    public int print(int i) throws IllegalStateException {
        needInterchange();
        return printed.look(i);
    }

    public int report(int i) throws IllegalStateException {
        needInterchange();
        return reported.look(i);
    }

    private void needInterchange() {
        if (!hasInterchange) {
            throw new IllegalStateException("there is no interchange");
        }
    }

    private Table tableOf(int type) {
        return type >= 0 && type < tables.length ? tables[type] : null;
    }

    private static int byteOf(long part, int shift) {
        return (int) (part >>> shift) & 255;
    }

    private static boolean isMost(int most) {
        return most >= 1 && most <= TIMES_MOST;
    }

    private static boolean isTag(int tag) {
        return isCapital(tag >>> 16) && isCapital(tag >>> 8 & 255) && isCapital(tag & 255);
    }

    private static boolean isEnvelopeTag(int tag) {
        return tag == UNB || tag == UNZ || tag == UNG || tag == UNE || tag == UNH || tag == UNT;
    }

    private static boolean isCapital(int c) {
        return c >= 'A' && c <= 'Z';
    }

    private static boolean isDigit(int c) {
        return c >= '0' && c <= '9';
    }

    /** A row of numbers that grows up to a bound; where it has nothing it reads as NONE. */
    private static final class Row {
        private final int[] cells;
        private int count = 0;

        Row(int most) {
            cells = new int[Math.max(most, 0)];
        }

        int size() {
            return count;
        }

        int at(int i) {
            return i >= 0 && i < count && i < cells.length ? cells[i] : NONE;
        }

        void add(int value) {
            if (count >= 0 && count < cells.length) {
                cells[count] = value;
                count++;
            }
        }

        void put(int i, int value) {
            if (i >= 0 && i < count && i < cells.length) {
                cells[i] = value;
            }
        }

        void empty() {
            count = 0;
        }
    }

    /**
     * The segments, elements, components and characters of an interchange, each numbered through.
     * A row of beginnings has one cell more, so that what begins at k ends where k + 1 begins.
     */
    private static final class Parts {
        private final Row tags = new Row(SEGMENTS_MOST);
        private final Row firstElements = new Row(SEGMENTS_MOST + 1);
        private final Row firstComponents = new Row(COMPONENTS_MOST + 1);
        private final Row firstCharacters = new Row(COMPONENTS_MOST + 1);
        private final Row characters = new Row(TEXT_MOST);

        void empty() {
            tags.empty();
            firstElements.empty();
            firstComponents.empty();
            firstCharacters.empty();
            characters.empty();
        }

        void addSegment(int tag) {
            tags.add(tag);
            firstElements.add(firstComponents.size());
        }

        void addElement() {
            firstComponents.add(firstCharacters.size());
        }

        void addComponent() {
            firstCharacters.add(characters.size());
        }

        void addCharacter(int c) {
            characters.add(c);
        }

        boolean isFull() {
            return firstCharacters.size() >= COMPONENTS_MOST;
        }

        /** Says where the last segment, element and component end. */
        void finish() {
            firstElements.add(firstComponents.size());
            firstComponents.add(firstCharacters.size());
            firstCharacters.add(characters.size());
        }

        int segmentCount() {
            return tags.size();
        }

        int tagOf(int s) {
            return tags.at(s);
        }

        int firstElement(int s) {
            return firstElements.at(s);
        }

        int firstComponent(int element) {
            return firstComponents.at(element);
        }

        int elementAt(int s, int e) {
            if (s < 0 || s >= tags.size() || e < 0) {
                return NONE;
            }
            int first = firstElements.at(s);
            return e < firstElements.at(s + 1) - first ? first + e : NONE;
        }

        int componentAt(int s, int e, int c) {
            int element = elementAt(s, e);
            if (element == NONE || c < 0) {
                return NONE;
            }
            int first = firstComponents.at(element);
            return c < firstComponents.at(element + 1) - first ? first + c : NONE;
        }

        /** A component that is not there is as an empty one. */
        int widthOf(int component) {
            return component == NONE
                    ? 0
                    : firstCharacters.at(component + 1) - firstCharacters.at(component);
        }

        int characterOf(int component, int i) {
            return i >= 0 && i < widthOf(component)
                    ? characters.at(firstCharacters.at(component) + i)
                    : NONE;
        }

        int look(int s, int e, int c, int i) {
            if (s < 0 || s >= tags.size()) {
                return NONE;
            }
            if (e == -2) {
                return tags.at(s);
            }
            if (e == -1) {
                return firstElements.at(s + 1) - firstElements.at(s);
            }
            int element = elementAt(s, e);
            if (element == NONE) {
                return NONE;
            }
            if (c == -1) {
                return firstComponents.at(element + 1) - firstComponents.at(element);
            }
            int component = componentAt(s, e, c);
            if (component == NONE) {
                return NONE;
            }
            return i == -1 ? widthOf(component) : characterOf(component, i);
        }

        /** Where an element ends if the empty components at its end are left out. */
        int filledEnd(int element) {
            int first = firstComponents.at(element);
            for (int k = firstComponents.at(element + 1); k > first; k--) {
                if (firstCharacters.at(k) > firstCharacters.at(k - 1)) {
                    return k;
                }
            }
            return first;
        }

        /** Where a segment ends if the empty elements at its end are left out. */
        int filledElementEnd(int s) {
            int first = firstElements.at(s);
            for (int k = firstElements.at(s + 1); k > first; k--) {
                if (filledEnd(k - 1) > firstComponents.at(k - 1)) {
                    return k;
                }
            }
            return first;
        }

        boolean areSame(int one, int other) {
            int width = widthOf(one);
            if (width != widthOf(other)) {
                return false;
            }
            int first = firstCharacters.at(one);
            int otherFirst = firstCharacters.at(other);
            for (int i = 0; i < width; i++) {
                if (characters.at(first + i) != characters.at(otherFirst + i)) {
                    return false;
                }
            }
            return true;
        }

        boolean isNumber(int component, int due) {
            int width = widthOf(component);
            int first = firstCharacters.at(component);
            if (width < 1 || width > 3 || width > 1 && characters.at(first) == '0') {
                return false;
            }
            int value = 0;
            for (int i = 0; i < width; i++) {
                int c = characters.at(first + i);
                if (!isDigit(c)) {
                    return false;
                }
                value = 10 * value + (c - '0');
            }
            return value == due;
        }
    }

    /**
     * The text, which cuts itself into parts. What takes a piece of it stops at the first character
     * that cannot stand there, so that the place where it stops is how many characters were fine.
     */
    private static final class Text {
        // No character has this code, so it is found nowhere in a text.
        private static final int NO_MARK = 0;

        private final Row characters = new Row(TEXT_MOST);
        private int place = 0;
        private int componentMark = NO_MARK;
        private int elementMark = NO_MARK;
        private int releaseMark = NO_MARK;
        private int endMark = NO_MARK;

        int size() {
            return characters.size();
        }

        void add(int c) {
            characters.add(c);
        }

        void empty() {
            characters.empty();
        }

        /** NONE, or how many characters were fine if the text is not segments as said. */
        int takeApart(Parts parts) {
            parts.empty();
            place = 0;
            if (!takeMarks()) {
                return place;
            }
            for (int s = 0; s < SEGMENTS_MOST && (s == 0 || place < characters.size()); s++) {
                if (!takeSegment(parts)) {
                    return place;
                }
            }
            if (place < characters.size()) {
                return place;
            }
            parts.finish();
            return NONE;
        }

        private boolean takeMarks() {
            if (characters.at(0) != 'U' || characters.at(1) != 'N' || characters.at(2) != 'A') {
                componentMark = COMPONENT_MARK;
                elementMark = ELEMENT_MARK;
                releaseMark = RELEASE_MARK;
                endMark = END_MARK;
                return true;
            }
            for (place = 3; place < 9; place++) {
                if (!takeChoice(characters.at(place))) {
                    return false;
                }
            }
            return true;
        }

        private boolean takeChoice(int c) {
            switch (place) {
                case 3:
                    componentMark = c;
                    return canBeMark(c);
                case 4:
                    elementMark = c;
                    return canBeMark(c) && c != componentMark;
                case 5:
                    return c != NONE;
                case 6:
                    releaseMark = c == ' ' ? NO_MARK : c;
                    return c == ' ' || canBeMark(c) && c != componentMark && c != elementMark;
                case 7:
                    return c == ' ';
                default:
                    endMark = c;
                    return canBeMark(c)
                            && c != componentMark
                            && c != elementMark
                            && c != releaseMark;
            }
        }

        private static boolean canBeMark(int c) {
            return c != NONE && c != ' ' && !isDigit(c) && !isCapital(c) && !(c >= 'a' && c <= 'z');
        }

        private boolean takeSegment(Parts parts) {
            int tag = 0;
            for (int k = 0; k < 3; k++) {
                int c = characters.at(place);
                if (!isCapital(c)) {
                    return false;
                }
                tag = tag << 8 | c;
                place++;
            }
            parts.addSegment(tag);
            for (int k = 0; k < COMPONENTS_MOST; k++) {
                if (characters.at(place) != elementMark || parts.isFull()) {
                    break;
                }
                place++;
                parts.addElement();
                takeElement(parts);
            }
            if (characters.at(place) != endMark) {
                return false;
            }
            place++;
            return true;
        }

        private void takeElement(Parts parts) {
            for (int k = 0; k < COMPONENTS_MOST; k++) {
                parts.addComponent();
                takeComponent(parts);
                if (characters.at(place) != componentMark || parts.isFull()) {
                    return;
                }
                place++;
            }
        }

        /** Stops at a mark, or where the text ends, which the end mark that is due shows later. */
        private void takeComponent(Parts parts) {
            for (; place < characters.size(); place++) {
                int c = characters.at(place);
                if (c == componentMark || c == elementMark || c == endMark) {
                    return;
                }
                if (c == releaseMark) {
                    place++;
                    c = characters.at(place);
                }
                if (c == NONE) {
                    return;
                }
                parts.addCharacter(c);
            }
        }
    }

    /** The messages and groups that the parts stand in, and what was found wrong with them. */
    private static final class Envelopes {
        final Parts parts = new Parts();
        private final Row firsts = new Row(MESSAGES_MOST);
        private final Row lasts = new Row(MESSAGES_MOST);
        private final Row groups = new Row(MESSAGES_MOST);
        private final Row codes = new Row(MESSAGES_MOST);
        private final Row places = new Row(MESSAGES_MOST);
        private final Row groupFirsts = new Row(GROUPS_MOST);
        private final Row groupLasts = new Row(GROUPS_MOST);
        private final Row groupMessages = new Row(GROUPS_MOST);
        private final Row groupCodes = new Row(GROUPS_MOST);
        private int wholeCode = FINE;
        private int place = 0;

        /** Finds the envelopes; false if they are not as said. */
        boolean fit() {
            empty();
            int end = parts.segmentCount() - 1;
            if (parts.tagOf(0) != UNB || parts.tagOf(end) != UNZ) {
                return false;
            }
            boolean grouped = parts.tagOf(1) == UNG;
            place = 1;
            for (int k = 0; k < MESSAGES_MOST && place < end; k++) {
                if (!(grouped ? takeGroup() : takeMessage(NONE))) {
                    return false;
                }
            }
            return place == end && firsts.size() > 0;
        }

        private void empty() {
            firsts.empty();
            lasts.empty();
            groups.empty();
            codes.empty();
            places.empty();
            groupFirsts.empty();
            groupLasts.empty();
            groupMessages.empty();
            groupCodes.empty();
        }

        private boolean takeGroup() {
            if (parts.tagOf(place) != UNG) {
                return false;
            }
            int first = place;
            int before = firsts.size();
            place++;
            for (int k = 0; k < MESSAGES_MOST && parts.tagOf(place) == UNH; k++) {
                if (!takeMessage(groupFirsts.size())) {
                    return false;
                }
            }
            if (parts.tagOf(place) != UNE || firsts.size() == before) {
                return false;
            }
            groupFirsts.add(first);
            groupLasts.add(place);
            groupMessages.add(firsts.size() - before);
            groupCodes.add(FINE);
            place++;
            return true;
        }

        private boolean takeMessage(int group) {
            if (parts.tagOf(place) != UNH) {
                return false;
            }
            int first = place;
            place++;
            for (int k = 0; k < SEGMENTS_MOST && !isEnvelopeTag(parts.tagOf(place)); k++) {
                place++;
            }
            if (parts.tagOf(place) != UNT) {
                return false;
            }
            firsts.add(first);
            lasts.add(place);
            groups.add(group);
            codes.add(FINE);
            places.add(NONE);
            place++;
            return true;
        }

        int messageCount() {
            return firsts.size();
        }

        int groupCount() {
            return groupFirsts.size();
        }

        int code() {
            return wholeCode;
        }

        int codeOfGroup(int g) {
            return groupCodes.at(g);
        }

        int ofMessage(int m, int w) {
            if (m < 0 || m >= firsts.size()) {
                return NONE;
            }
            switch (w) {
                case 0:
                    return codes.at(m);
                case 1:
                    return places.at(m);
                case 2:
                    return lasts.at(m) - firsts.at(m) + 1;
                case 3:
                    return groups.at(m);
                default:
                    return NONE;
            }
        }

        int reference() {
            return parts.componentAt(0, 2, 0);
        }

        int referenceOfGroup(int g) {
            return parts.componentAt(groupFirsts.at(g), 0, 0);
        }

        int referenceOfMessage(int m) {
            return parts.componentAt(firsts.at(m), 0, 0);
        }

        /** The type that a message names, or NONE if it is not one digit. */
        int typeOf(int m) {
            int named = parts.componentAt(firsts.at(m), 1, 0);
            int c = parts.characterOf(named, 0);
            return parts.widthOf(named) == 1 && isDigit(c) ? c - '0' : NONE;
        }

        void judgeEnds() {
            int counted = groupFirsts.size() > 0 ? groupFirsts.size() : firsts.size();
            wholeCode = codeOfEnd(reference(), parts.segmentCount() - 1, counted);
            for (int g = 0; g < groupFirsts.size(); g++) {
                int found = codeOfEnd(referenceOfGroup(g), groupLasts.at(g), groupMessages.at(g));
                groupCodes.put(g, found);
            }
        }

        private int codeOfEnd(int reference, int end, int due) {
            return (isRightReference(reference, end) ? FINE : WRONG_REFERENCE)
                    + (isRightCount(end, due) ? FINE : WRONG_COUNT);
        }

        private boolean isRightReference(int reference, int end) {
            return parts.widthOf(reference) > 0
                    && parts.areSame(reference, parts.componentAt(end, 1, 0));
        }

        private boolean isRightCount(int end, int due) {
            return parts.isNumber(parts.componentAt(end, 0, 0), due);
        }

        /** The table is the one of the message's type, or null if there is no such type. */
        void judgeMessage(int m, Table table) {
            int first = firsts.at(m);
            int last = lasts.at(m);
            if (!isRightReference(referenceOfMessage(m), last)) {
                note(m, WRONG_REFERENCE, last);
            } else if (!isRightCount(last, last - first + 1)) {
                note(m, WRONG_COUNT, last);
            } else if (isRepeated(m)) {
                note(m, REPEATED, first);
            } else if (table == null || table.isEmpty()) {
                note(m, NO_TABLE, first);
            } else {
                matchMessage(m, table);
            }
        }

        private void note(int m, int code, int where) {
            codes.put(m, code);
            places.put(m, where);
        }

        private boolean isRepeated(int m) {
            for (int k = 0; k < m; k++) {
                if (parts.areSame(referenceOfMessage(k), referenceOfMessage(m))) {
                    return true;
                }
            }
            return false;
        }

        private void matchMessage(int m, Table table) {
            int last = lasts.at(m);
            table.startMatch();
            for (int s = firsts.at(m) + 1; s < last; s++) {
                int error = table.match(parts.tagOf(s));
                if (error != FINE) {
                    note(m, error, s);
                    return;
                }
            }
            int error = table.endMatch();
            note(m, error, error == FINE ? NONE : last);
        }
    }

    /**
     * What may stand in the messages of one type. A group's items stand behind it, ahead of the
     * items behind the group, and each item knows the group in whose list it is.
     */
    private static final class Table {
        // The tag of an item that is a group.
        private static final int GROUP = 0;

        private final Row tags = new Row(ITEMS_MOST);
        private final Row musts = new Row(ITEMS_MOST);
        private final Row mosts = new Row(ITEMS_MOST);
        private final Row owners = new Row(ITEMS_MOST);
        private int openGroup = NONE;
        private int depth = 0;

        // Where a match stands: at an item of the list of a group, or behind that list's last one.
        private final Row had = new Row(ITEMS_MOST);
        private int listGroup = NONE;
        private int item = NONE;

        boolean isEmpty() {
            return tags.size() == 0;
        }

        boolean isFull() {
            return tags.size() >= ITEMS_MOST;
        }

        boolean isDeepest() {
            return depth >= DEPTH_MOST;
        }

        /** The open list is a group's and has no item if the group is the newest item of all. */
        boolean wantsTrigger() {
            return openGroup != NONE && openGroup == tags.size() - 1;
        }

        int addSegment(int tag, boolean must, int most) {
            tags.add(tag);
            musts.add(must ? 1 : 0);
            mosts.add(most);
            owners.add(openGroup);
            return tags.size();
        }

        int addGroup(boolean must, int most) {
            int added = addSegment(GROUP, must, most);
            openGroup = added - 1;
            depth++;
            return added;
        }

        boolean closeList() {
            if (openGroup == NONE || wantsTrigger()) {
                return false;
            }
            openGroup = owners.at(openGroup);
            depth--;
            return true;
        }

        void empty() {
            tags.empty();
            musts.empty();
            mosts.empty();
            owners.empty();
            openGroup = NONE;
            depth = 0;
        }

        void startMatch() {
            had.empty();
            for (int k = 0; k < tags.size(); k++) {
                had.add(0);
            }
            listGroup = NONE;
            item = tags.size() > 0 ? 0 : NONE;
        }

        /** The error of the next segment of a message. */
        int match(int tag) {
            // No item is passed twice in one call.
            for (int k = 0; k <= ITEMS_MOST; k++) {
                if (!standAtItem()) {
                    return NO_ITEM;
                }
                if (firstTag() == tag) {
                    return takeItem();
                }
                if (isMissing()) {
                    return MISSING;
                }
                goOn();
            }
            return NO_ITEM;
        }

        /** The error at the end of a message. */
        int endMatch() {
            for (int k = 0; k <= ITEMS_MOST; k++) {
                if (!standAtItem()) {
                    return FINE;
                }
                if (isMissing()) {
                    return MISSING;
                }
                goOn();
            }
            return FINE;
        }

        /** Behind a list's last item one stands at its group; false behind the table's last one. */
        private boolean standAtItem() {
            if (item == NONE && listGroup != NONE) {
                item = listGroup;
                listGroup = owners.at(item);
            }
            return item != NONE;
        }

        /** The item's tag or its trigger's; a group that was just opened has no trigger yet. */
        private int firstTag() {
            if (tags.at(item) != GROUP) {
                return tags.at(item);
            }
            return owners.at(item + 1) == item ? tags.at(item + 1) : NONE;
        }

        private boolean isMissing() {
            return musts.at(item) == 1 && had.at(item) == 0;
        }

        private int takeItem() {
            if (had.at(item) >= mosts.at(item)) {
                return TOO_OFTEN;
            }
            had.put(item, had.at(item) + 1);
            if (tags.at(item) == GROUP) {
                listGroup = item;
                item = item + 1;
                goOn();
            }
            return FINE;
        }

        private void goOn() {
            int next = NONE;
            for (int k = item + 1; k < owners.size(); k++) {
                if (owners.at(k) == listGroup) {
                    next = k;
                    break;
                }
            }
            item = next;
            had.put(item, 0);
        }
    }

    /** A sheet on which the print or the report is written. */
    private static final class Paper {
        private final Row characters;

        Paper(int most) {
            characters = new Row(most);
        }

        int look(int i) {
            return i == -1 ? characters.size() : characters.at(i);
        }

        void writePrint(Parts parts) {
            characters.empty();
            for (int s = 0; s < parts.segmentCount(); s++) {
                putTag(parts.tagOf(s));
                int end = parts.filledElementEnd(s);
                for (int k = parts.firstElement(s); k < end; k++) {
                    characters.add(ELEMENT_MARK);
                    putElement(parts, k);
                }
                characters.add(END_MARK);
            }
        }

        void writeReport(Envelopes envelopes) {
            Parts parts = envelopes.parts;
            characters.empty();
            putVerdict(UCI, parts, envelopes.reference(), envelopes.code());
            characters.add(END_MARK);
            int group = NONE;
            for (int m = 0; m < envelopes.messageCount(); m++) {
                if (envelopes.ofMessage(m, 3) != group) {
                    group = envelopes.ofMessage(m, 3);
                    int reference = envelopes.referenceOfGroup(group);
                    putVerdict(UCF, parts, reference, envelopes.codeOfGroup(group));
                    characters.add(END_MARK);
                }
                int code = envelopes.ofMessage(m, 0);
                putVerdict(UCM, parts, envelopes.referenceOfMessage(m), code);
                if (code != FINE) {
                    characters.add(ELEMENT_MARK);
                    putNumber(envelopes.ofMessage(m, 1));
                }
                characters.add(END_MARK);
            }
        }

        private void putVerdict(int tag, Parts parts, int reference, int code) {
            putTag(tag);
            characters.add(ELEMENT_MARK);
            putComponent(parts, reference);
            characters.add(ELEMENT_MARK);
            putNumber(code);
        }

        private void putTag(int tag) {
            characters.add(tag >>> 16 & 255);
            characters.add(tag >>> 8 & 255);
            characters.add(tag & 255);
        }

        private void putElement(Parts parts, int element) {
            int first = parts.firstComponent(element);
            int end = parts.filledEnd(element);
            for (int k = first; k < end; k++) {
                if (k > first) {
                    characters.add(COMPONENT_MARK);
                }
                putComponent(parts, k);
            }
        }

        private void putComponent(Parts parts, int component) {
            int width = parts.widthOf(component);
            for (int i = 0; i < width; i++) {
                int c = parts.characterOf(component, i);
                if (isPrintMark(c)) {
                    characters.add(RELEASE_MARK);
                }
                characters.add(c);
            }
        }

        private static boolean isPrintMark(int c) {
            return c == COMPONENT_MARK || c == ELEMENT_MARK || c == RELEASE_MARK || c == END_MARK;
        }

        /** Codes and places have at most two digits. */
        private void putNumber(int number) {
            if (number >= 10) {
                characters.add('0' + number / 10);
            }
            characters.add('0' + number % 10);
        }
    }
}
