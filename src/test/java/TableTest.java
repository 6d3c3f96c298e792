/** Promises 5 to 8, and of the terms TABLES: slot, open, close, clear. */
public final class TableTest {
    private static final int AAA = Check.tag("AAA");
    private static final int[] WRONG_TYPES = {-1, 4, 5, 100, 256, 1 << 16, Integer.MIN_VALUE, Integer.MAX_VALUE};
    private static final int[] WRONG_MOSTS = {0, -1, 100, 101, 257, 65537, Integer.MIN_VALUE, Integer.MAX_VALUE};

    public static void main(String[] args) {
        howManyItems();
        types();
        mosts();
        mostsAreKept();
        letters();
        tagsTooLarge();
        tagsOfEnvelopes();
        triggers();
        noGroupFirst();
        twentyFourItems();
        threeDeep();
        argumentsFirst();
        closing();
        closingEmptyLists();
        deepBehindRefusedCloses();
        clearing();
        clearingOpenLists();
        clearingLeavesNothing();
        typesAreApart();
        Check.end();
    }

    private static String slot(Desk desk, int type, int tag, boolean must, int most) {
        return Check.answer(() -> desk.slot(type, tag, must, most));
    }

    private static String open(Desk desk, int type, boolean must, int most) {
        return Check.answer(() -> desk.open(type, must, most));
    }

    /** "how many items the table has" */
    private static void howManyItems() {
        Desk desk = new Desk();
        Check.due("slot", desk.slot(0, AAA, true, 1), 1);
        Check.due("slot", desk.slot(0, Check.tag("ZZZ"), false, 99), 2);
        Check.due("the same tag again", desk.slot(0, AAA, true, 50), 3);
        Check.due("open", desk.open(0, true, 1), 4);
        Check.due("its trigger", desk.slot(0, AAA, true, 1), 5);
        Check.due("in it", desk.open(0, false, 9), 6);
        Check.due("its trigger", desk.slot(0, AAA, true, 1), 7);
        Check.due("close", desk.close(0), true);
        Check.due("behind it", desk.slot(0, AAA, false, 2), 8);
        Check.due("close", desk.close(0), true);
        Check.due("behind both", desk.slot(0, AAA, false, 2), 9);
    }

    /** "IllegalArgumentException if there is no such type" */
    private static void types() {
        Desk desk = new Desk();
        for (int type : WRONG_TYPES) {
            Check.due("slot type " + type, slot(desk, type, AAA, true, 1), Check.ARGUMENT);
            Check.due("open type " + type, open(desk, type, true, 1), Check.ARGUMENT);
            Check.due("close type " + type, Check.answer(() -> desk.close(type)), Check.ARGUMENT);
            Check.due("clear type " + type, Check.answer(() -> desk.clear(type)), Check.ARGUMENT);
        }
        for (int type = 0; type < 4; type++) {
            Check.due("close type " + type, desk.close(type), false);
            Check.due("clear type " + type, desk.clear(type), false);
            Check.due("slot type " + type, desk.slot(type, AAA, true, 1), 1);
            Check.due("open type " + type, desk.open(type, true, 1), 2);
        }
    }

    /** "a MOST, 1 .. 99" */
    private static void mosts() {
        Desk desk = new Desk();
        for (int most : WRONG_MOSTS) {
            Check.due("slot most " + most, slot(desk, 0, AAA, true, most), Check.ARGUMENT);
            Check.due("slot most " + most, slot(desk, 0, AAA, false, most), Check.ARGUMENT);
            Check.due("open most " + most, open(desk, 0, true, most), Check.ARGUMENT);
            Check.due("open most " + most, open(desk, 0, false, most), Check.ARGUMENT);
        }
        int items = 0;
        for (int most : new int[] {1, 2, 98, 99}) {
            Check.due("slot most " + most, desk.slot(0, AAA, true, most), ++items);
            Check.due("slot most " + most, desk.slot(0, AAA, false, most), ++items);
            Check.due("open most " + most, desk.open(0, true, most), ++items);
            Check.due("trigger", desk.slot(0, AAA, true, 1), ++items);
            Check.due("close", desk.close(0), true);
        }
        for (int most = 1; most <= 99; most++) {
            Desk each = new Desk();
            Check.due("slot most " + most, each.slot(3, AAA, false, most), 1);
            Check.due("open most " + most, each.open(3, false, most), 2);
        }
    }

    private static void mostsAreKept() {
        Desk desk = new Desk();
        desk.slot(1, AAA, false, 2);
        desk.open(1, false, 3);
        desk.slot(1, Check.tag("BBB"), true, 1);
        Check.due("as often as may be", Check.verdictOf(desk, "AAA", "AAA", "BBB", "BBB", "BBB"), "0 at -1");
        Check.due("a third one", Check.verdictOf(desk, "AAA", "AAA", "AAA"), "6 at 4");
        Check.due("a fourth one", Check.verdictOf(desk, "BBB", "BBB", "BBB", "BBB"), "6 at 5");
    }

    /** "tag is 65536 * a + 256 * b + c for the codes a, b, c of its letters" */
    private static void letters() {
        for (int place = 0; place < 3; place++) {
            for (int c = 0; c < 256; c++) {
                int shift = 16 - 8 * place;
                int tag = AAA & ~(255 << shift) | c << shift;
                Desk desk = new Desk();
                Check.due("slot " + tag, slot(desk, 1, tag, false, 1), c >= 'A' && c <= 'Z' ? 1 : Check.ARGUMENT);
            }
        }
        for (String tag : new String[] {"AAA", "ABC", "XYZ", "ZZZ", "AZM"}) {
            Desk desk = new Desk();
            Check.due("slot " + tag, desk.slot(1, Check.tag(tag), true, 1), 1);
            Check.due("its message", Check.verdictOf(desk, tag), "0 at -1");
            String turned = new StringBuilder(tag).reverse().toString();
            Check.due("turned", Check.verdictOf(desk, turned), turned.equals(tag) ? "0 at -1" : "5 at 2");
        }
    }

    private static void tagsTooLarge() {
        Desk desk = new Desk();
        for (int tag : new int[] {
            0, 1, -1, 'A', 'A' << 8 | 'A', AAA - 1, AAA + (1 << 24), AAA | 'A' << 24, AAA | 1 << 31, -AAA,
            AAA << 8, Check.tag("ZZZ") + 1, Integer.MIN_VALUE, Integer.MAX_VALUE}) {
            Check.due("slot tag " + tag, slot(desk, 0, tag, true, 1), Check.ARGUMENT);
        }
        Check.due("the smallest", desk.slot(0, AAA, true, 1), 1);
        Check.due("the largest", desk.slot(0, Check.tag("ZZZ"), true, 1), 2);
    }

    /** "or the tag is one of the envelopes'" */
    private static void tagsOfEnvelopes() {
        Desk desk = new Desk();
        int items = 0;
        for (char c = 'A'; c <= 'Z'; c++) {
            boolean envelope = "BZGEHT".indexOf(c) >= 0;
            Check.due("slot UN" + c, slot(desk, 0, Check.tag("UN" + c), false, 2), envelope ? Check.ARGUMENT : ++items);
        }
        Check.due("twenty others", items, 20);
        for (String near : new String[] {"UCI", "VNB", "UOB", "BNU"}) {
            Check.due("slot " + near, desk.slot(0, Check.tag(near), false, 2), ++items);
        }
        Desk group = new Desk();
        group.open(0, true, 1);
        Check.due("as a trigger", slot(group, 0, Check.tag("UNH"), true, 1), Check.ARGUMENT);
    }

    /** "or this is the first one of a group and not with must and most 1" */
    private static void triggers() {
        Desk desk = new Desk();
        desk.open(0, true, 3);
        Check.due("without must", slot(desk, 0, AAA, false, 1), Check.STATE);
        Check.due("most 2", slot(desk, 0, AAA, true, 2), Check.STATE);
        Check.due("most 99", slot(desk, 0, AAA, true, 99), Check.STATE);
        Check.due("neither", slot(desk, 0, AAA, false, 2), Check.STATE);
        Check.due("a trigger", desk.slot(0, AAA, true, 1), 2);
        Check.due("no trigger any more", desk.slot(0, AAA, false, 99), 3);
        desk.open(0, false, 1);
        Check.due("in a group in it", slot(desk, 0, AAA, false, 1), Check.STATE);
        Check.due("a trigger", desk.slot(0, AAA, true, 1), 5);
        Check.due("close", desk.close(0), true);
        Check.due("none is due behind it", desk.slot(0, AAA, false, 2), 6);
        Check.due("close", desk.close(0), true);
        Check.due("nor in the table's own list", desk.slot(0, AAA, false, 2), 7);
        Check.due("nor first in it", new Desk().slot(0, AAA, false, 2), 1);
    }

    /** open: "or this is the first item of a group" */
    private static void noGroupFirst() {
        Desk desk = new Desk();
        Check.due("first in the table", desk.open(0, true, 1), 1);
        Check.due("first in a group", open(desk, 0, true, 1), Check.STATE);
        Check.due("first in a group", open(desk, 0, false, 2), Check.STATE);
        Check.due("a trigger", desk.slot(0, AAA, true, 1), 2);
        Check.due("second in a group", desk.open(0, true, 1), 3);
        Check.due("first in a group in it", open(desk, 0, true, 1), Check.STATE);
    }

    /** "a table has at most 24 items" */
    private static void twentyFourItems() {
        Desk groups = new Desk();
        for (int k = 1; k <= 23; k++) {
            Check.due("slot", groups.slot(1, AAA, true, 1), k);
        }
        Check.due("open as the 24th", groups.open(1, true, 1), 24);
        Check.due("slot as the 25th", slot(groups, 1, AAA, true, 1), Check.STATE);
        Check.due("open as the 25th", open(groups, 1, true, 1), Check.STATE);
        Check.due("close without an item", groups.close(1), false);
        Check.due("another table", groups.slot(2, AAA, true, 1), 1);
        Check.due("clear", groups.clear(1), true);
        for (int k = 1; k <= 24; k++) {
            Check.due("slot", groups.slot(1, AAA, true, 1), k);
        }
        Check.due("slot as the 25th", slot(groups, 1, AAA, true, 1), Check.STATE);
        Check.due("slot as the 25th", slot(groups, 1, AAA, false, 99), Check.STATE);
        Check.due("open as the 25th", open(groups, 1, true, 1), Check.STATE);
        // The items of groups count too.
        Desk inner = new Desk();
        for (int k = 0; k < 8; k++) {
            Check.due("open", inner.open(3, false, 1), 3 * k + 1);
            Check.due("trigger", inner.slot(3, AAA, true, 1), 3 * k + 2);
            Check.due("slot", inner.slot(3, AAA, false, 1), 3 * k + 3);
            if (k < 7) {
                Check.due("close", inner.close(3), true);
            }
        }
        Check.due("slot in the last group", slot(inner, 3, AAA, true, 1), Check.STATE);
        Check.due("close", inner.close(3), true);
        Check.due("slot behind it", slot(inner, 3, AAA, true, 1), Check.STATE);
        Check.due("open behind it", open(inner, 3, true, 1), Check.STATE);
    }

    /** "Groups stand at most 3 deep in one another"; open: "three groups are open" */
    private static void threeDeep() {
        Desk desk = new Desk();
        for (int k = 0; k < 3; k++) {
            Check.due("open", desk.open(2, false, 7), 2 * k + 1);
            Check.due("trigger", desk.slot(2, AAA, true, 1), 2 * k + 2);
        }
        Check.due("a fourth one deep", open(desk, 2, true, 1), Check.STATE);
        Check.due("a segment there", desk.slot(2, AAA, false, 2), 7);
        Check.due("a fourth one deep", open(desk, 2, false, 99), Check.STATE);
        Check.due("close", desk.close(2), true);
        Check.due("a third one again", desk.open(2, true, 1), 8);
        Check.due("trigger", desk.slot(2, AAA, true, 1), 9);
        Check.due("a fourth one deep", open(desk, 2, true, 1), Check.STATE);
        Check.due("another table", desk.open(1, true, 1), 1);
        for (int k = 0; k < 3; k++) {
            Check.due("close", desk.close(2), true);
        }
        // Groups beside one another are not in one another.
        for (int k = 0; k < 4; k++) {
            Check.due("open", desk.open(2, true, 1), 10 + 2 * k);
            Check.due("trigger", desk.slot(2, AAA, true, 1), 11 + 2 * k);
            Check.due("close", desk.close(2), true);
        }
    }

    private static void argumentsFirst() {
        Desk desk = new Desk();
        desk.open(0, true, 3);
        Check.due("no such tag", slot(desk, 0, 0, false, 1), Check.ARGUMENT);
        Check.due("an envelope's", slot(desk, 0, Check.tag("UNT"), false, 1), Check.ARGUMENT);
        Check.due("no such most", slot(desk, 0, AAA, false, 0), Check.ARGUMENT);
        Check.due("no such most", slot(desk, 0, AAA, true, 100), Check.ARGUMENT);
        Check.due("no such most", open(desk, 0, false, 0), Check.ARGUMENT);
        Check.due("no such most", open(desk, 0, false, 100), Check.ARGUMENT);
        for (int k = 2; k <= 24; k++) {
            Check.due("slot", desk.slot(0, AAA, true, 1), k);
        }
        Check.due("no such tag in a full table", slot(desk, 0, 0, true, 1), Check.ARGUMENT);
        Check.due("no such most in a full table", slot(desk, 0, AAA, true, 0), Check.ARGUMENT);
        Check.due("no such most in a full table", open(desk, 0, true, 0), Check.ARGUMENT);
    }

    /** close: "the one that its group stands in is open then: true" */
    private static void closing() {
        Desk desk = new Desk();
        Check.table(desk, 1, "(9 AAA! (9 BBB! (9 CCC!");
        Check.due("close", desk.close(1), true);
        desk.slot(1, Check.tag("DDD"), true, 1);
        Check.due("close", desk.close(1), true);
        desk.slot(1, Check.tag("EEE"), true, 1);
        Check.due("close", desk.close(1), true);
        desk.slot(1, Check.tag("FFF"), true, 1);
        Check.due("close the table's own", desk.close(1), false);
        Check.due("in all lists", Check.verdictOf(desk, "AAA", "BBB", "CCC", "DDD", "EEE", "FFF"), "0 at -1");
        Check.due("DDD is in BBB's", Check.verdictOf(desk, "AAA", "BBB", "EEE"), "5 at 4");
        Check.due("EEE is in AAA's", Check.verdictOf(desk, "AAA", "FFF"), "5 at 3");
        Check.due("FFF is in the table's", Check.verdictOf(desk, "FFF"), "0 at -1");
    }

    /** "false if it is the table's own or has no item" */
    private static void closingEmptyLists() {
        Desk desk = new Desk();
        Check.due("an empty table's own", desk.close(2), false);
        desk.slot(2, AAA, false, 2);
        Check.due("the table's own", desk.close(2), false);
        desk.open(2, false, 2);
        Check.due("without an item", desk.close(2), false);
        Check.due("without an item", desk.close(2), false);
        desk.slot(2, AAA, true, 1);
        desk.open(2, false, 2);
        Check.due("in it without an item", desk.close(2), false);
        Check.due("its trigger is still due", slot(desk, 2, AAA, false, 1), Check.STATE);
        desk.slot(2, AAA, true, 1);
        Check.due("with an item", desk.close(2), true);
        // The list of the group around has items, of which the last one is a group.
        Check.due("with an item", desk.close(2), true);
        Check.due("the table's own", desk.close(2), false);
    }

    /** A close that is refused does not make a group less open. */
    private static void deepBehindRefusedCloses() {
        Desk desk = new Desk();
        for (int k = 0; k < 3; k++) {
            desk.open(1, false, 2);
            Check.due("without an item", desk.close(1), false);
            desk.slot(1, AAA, true, 1);
        }
        Check.due("a fourth one deep", open(desk, 1, false, 2), Check.STATE);
        for (int k = 0; k < 3; k++) {
            Check.due("with an item", desk.close(1), true);
        }
        Check.due("the table's own", desk.close(1), false);
        for (int k = 0; k < 3; k++) {
            desk.open(1, false, 2);
            desk.slot(1, AAA, true, 1);
        }
        Check.due("a fourth one deep", open(desk, 1, false, 2), Check.STATE);
    }

    /** clear: "true; false if it is empty" */
    private static void clearing() {
        Desk desk = new Desk();
        for (int type = 0; type < 4; type++) {
            Check.due("an empty table", desk.clear(type), false);
            desk.slot(type, AAA, false, 1);
            Check.due("one item", desk.clear(type), true);
            Check.due("again", desk.clear(type), false);
            Check.due("slot", desk.slot(type, AAA, false, 1), 1);
        }
    }

    /** "and its own list open" */
    private static void clearingOpenLists() {
        Desk desk = new Desk();
        desk.open(3, true, 2);
        Check.due("clear", desk.clear(3), true);
        Check.due("its own list is open", desk.close(3), false);
        Check.due("no trigger is due", desk.slot(3, AAA, false, 2), 1);
        Check.due("its own list is open", desk.close(3), false);
        for (int k = 0; k < 3; k++) {
            Check.due("three deep again", desk.open(3, true, 2), 2 * k + 2);
            desk.slot(3, AAA, true, 1);
        }
        Check.due("four deep", open(desk, 3, true, 2), Check.STATE);
        Check.due("clear", desk.clear(3), true);
        Check.due("its own list is open", desk.close(3), false);
        Check.due("three deep again", desk.open(3, true, 2), 1);
        Check.due("a trigger is due", slot(desk, 3, AAA, true, 2), Check.STATE);
    }

    private static void clearingLeavesNothing() {
        Desk again = new Desk();
        Check.table(again, 1, "(9 AAA! ) BBB!9");
        Check.due("clear", again.clear(1), true);
        Check.table(again, 1, "BBB CCC2");
        Check.due("nothing is must", Check.verdictOf(again), "0 at -1");
        Check.due("most 1", Check.verdictOf(again, "BBB", "BBB"), "6 at 3");
        Check.due("most 2", Check.verdictOf(again, "CCC", "CCC", "CCC"), "6 at 4");
        Check.due("in one list", Check.verdictOf(again, "BBB", "CCC", "CCC"), "0 at -1");
    }

    private static void typesAreApart() {
        Desk desk = new Desk();
        desk.open(0, true, 1);
        Check.due("slot", desk.slot(1, AAA, false, 2), 1);
        Check.due("close", desk.close(1), false);
        Check.due("clear", desk.clear(1), true);
        Check.due("close", desk.close(0), false);
        Check.due("slot", desk.slot(0, AAA, true, 1), 2);
        Check.due("close", desk.close(0), true);
        Check.due("slot", desk.slot(0, AAA, false, 9), 3);
    }
}
