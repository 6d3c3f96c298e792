/** Promises 5 to 8: slot, open, close, clear. */
public final class TableTest {
    private static final int AAA = Check.tag("AAA");

    public static void main(String[] args) {
        slots();
        wrongSlots();
        groups();
        triggers();
        fullTables();
        clearing();
        typesAreApart();
        Check.end();
    }

    private static void slots() {
        InterchangeDesk desk = new InterchangeDesk();
        Check.due("slot", desk.slot(0, AAA, true, 1), 1);
        Check.due("slot", desk.slot(0, Check.tag("ZZZ"), false, 99), 2);
        Check.due("the same tag again", desk.slot(0, AAA, true, 50), 3);
        Check.due("UNA is no envelope", desk.slot(0, Check.tag("UNA"), true, 1), 4);
        Check.due("UNS is no envelope", desk.slot(0, Check.tag("UNS"), true, 1), 5);
        Check.due("type 3", desk.slot(3, AAA, false, 2), 1);
    }

    private static String slot(InterchangeDesk desk, int type, int tag, int most) {
        return Check.answer(() -> desk.slot(type, tag, true, most));
    }

    private static void wrongSlots() {
        InterchangeDesk desk = new InterchangeDesk();
        int[] wrongTypes = {-1, 4, 100, Integer.MIN_VALUE, Integer.MAX_VALUE};
        for (int type : wrongTypes) {
            Check.due("slot type " + type, slot(desk, type, AAA, 1), Check.ARGUMENT);
            Check.due("open type " + type, Check.answer(() -> desk.open(type, true, 1)), Check.ARGUMENT);
            Check.due("close type " + type, Check.answer(() -> desk.close(type)), Check.ARGUMENT);
            Check.due("clear type " + type, Check.answer(() -> desk.clear(type)), Check.ARGUMENT);
        }
        int[] wrongMosts = {0, -1, 100, Integer.MIN_VALUE, Integer.MAX_VALUE};
        for (int most : wrongMosts) {
            Check.due("slot most " + most, slot(desk, 0, AAA, most), Check.ARGUMENT);
            Check.due("open most " + most, Check.answer(() -> desk.open(0, true, most)), Check.ARGUMENT);
        }
        int[] wrongTags = {
            0, -1, AAA + (1 << 24), AAA | 1 << 31, Integer.MIN_VALUE, Integer.MAX_VALUE,
            Check.tag("@AA"), Check.tag("A[A"), Check.tag("AAa"), Check.tag("A1A"), Check.tag("AA@"),
            Check.tag("[AA"), Check.tag("A@A"), Check.tag("AA["), 'A' << 8 | 'A', 'A'};
        for (int tag : wrongTags) {
            Check.due("slot tag " + tag, slot(desk, 0, tag, 1), Check.ARGUMENT);
        }
        for (String envelope : new String[] {"UNB", "UNZ", "UNG", "UNE", "UNH", "UNT"}) {
            Check.due("slot " + envelope, slot(desk, 0, Check.tag(envelope), 1), Check.ARGUMENT);
        }
        Check.due("nothing was added", desk.slot(0, AAA, true, 1), 1);
    }

    private static void groups() {
        InterchangeDesk desk = new InterchangeDesk();
        Check.due("close the table's own", desk.close(2), false);
        Check.due("open", desk.open(2, false, 99), 1);
        Check.due("close without an item", desk.close(2), false);
        Check.due("slot", desk.slot(2, AAA, true, 1), 2);
        Check.due("open", desk.open(2, true, 1), 3);
        Check.due("slot", desk.slot(2, AAA, true, 1), 4);
        Check.due("open", desk.open(2, false, 7), 5);
        Check.due("slot", desk.slot(2, AAA, true, 1), 6);
        Check.due("a fourth one deep", Check.answer(() -> desk.open(2, true, 1)), Check.STATE);
        Check.due("close", desk.close(2), true);
        Check.due("a third one again", desk.open(2, true, 1), 7);
        Check.due("close without an item", desk.close(2), false);
        Check.due("slot", desk.slot(2, AAA, true, 1), 8);
        Check.due("close", desk.close(2), true);
        Check.due("close", desk.close(2), true);
        Check.due("close", desk.close(2), true);
        Check.due("close the table's own", desk.close(2), false);
        Check.due("slot", desk.slot(2, AAA, false, 5), 9);
        Check.due("open", desk.open(2, true, 5), 10);
    }

    private static void triggers() {
        InterchangeDesk desk = new InterchangeDesk();
        desk.open(0, true, 3);
        Check.due("without must", Check.answer(() -> desk.slot(0, AAA, false, 1)), Check.STATE);
        Check.due("most 2", Check.answer(() -> desk.slot(0, AAA, true, 2)), Check.STATE);
        Check.due("neither", Check.answer(() -> desk.slot(0, AAA, false, 2)), Check.STATE);
        Check.due("a group first", Check.answer(() -> desk.open(0, true, 1)), Check.STATE);
        Check.due("no such tag", Check.answer(() -> desk.slot(0, 0, false, 1)), Check.ARGUMENT);
        Check.due("no such most", Check.answer(() -> desk.slot(0, AAA, false, 0)), Check.ARGUMENT);
        Check.due("no such most", Check.answer(() -> desk.open(0, false, 0)), Check.ARGUMENT);
        Check.due("a trigger", desk.slot(0, AAA, true, 1), 2);
        Check.due("no trigger any more", desk.slot(0, AAA, false, 99), 3);
    }

    private static void fullTables() {
        InterchangeDesk desk = new InterchangeDesk();
        for (int k = 1; k <= 23; k++) {
            Check.due("slot", desk.slot(1, AAA, true, 1), k);
        }
        Check.due("open", desk.open(1, true, 1), 24);
        Check.due("slot in a full table", slot(desk, 1, AAA, 1), Check.STATE);
        Check.due("open in a full table", Check.answer(() -> desk.open(1, true, 1)), Check.STATE);
        Check.due("close without an item", desk.close(1), false);
        Check.due("arguments come first", slot(desk, 1, 0, 1), Check.ARGUMENT);
        Check.due("another table", desk.slot(2, AAA, true, 1), 1);
        Check.due("clear", desk.clear(1), true);
        for (int k = 1; k <= 24; k++) {
            Check.due("slot", desk.slot(1, AAA, true, 1), k);
        }
        Check.due("slot in a full table", slot(desk, 1, AAA, 1), Check.STATE);
        Check.due("open in a full table", Check.answer(() -> desk.open(1, true, 1)), Check.STATE);
    }

    private static void clearing() {
        InterchangeDesk desk = new InterchangeDesk();
        Check.due("clear an empty table", desk.clear(3), false);
        desk.open(3, true, 2);
        Check.due("clear", desk.clear(3), true);
        Check.due("clear again", desk.clear(3), false);
        Check.due("its own list is open", desk.close(3), false);
        Check.due("no trigger is due", desk.slot(3, AAA, false, 2), 1);
        Check.due("three deep again", desk.open(3, true, 2), 2);
        desk.slot(3, AAA, true, 1);
        desk.open(3, true, 2);
        desk.slot(3, AAA, true, 1);
        Check.due("three deep again", desk.open(3, true, 2), 6);

        // Nothing of what the items were before is left in the table.
        InterchangeDesk again = new InterchangeDesk();
        Check.table(again, 1, "(9 AAA! ) BBB!9");
        Check.due("clear", again.clear(1), true);
        Check.table(again, 1, "BBB CCC2");
        Check.due("nothing is must", Check.verdictOf(again), "0 at -1");
        Check.due("most 1", Check.verdictOf(again, "BBB", "BBB"), "6 at 3");
        Check.due("most 2", Check.verdictOf(again, "CCC", "CCC", "CCC"), "6 at 4");
        Check.due("in one list", Check.verdictOf(again, "BBB", "CCC", "CCC"), "0 at -1");
    }

    private static void typesAreApart() {
        InterchangeDesk desk = new InterchangeDesk();
        desk.open(0, true, 1);
        Check.due("slot", desk.slot(1, AAA, false, 2), 1);
        Check.due("close", desk.close(1), false);
        Check.due("clear", desk.clear(1), true);
        Check.due("close", desk.close(0), false);
        Check.due("slot", desk.slot(0, AAA, true, 1), 2);
        Check.due("close", desk.close(0), true);
    }
}
