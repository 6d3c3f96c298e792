/** Promises 1 to 4: a new object, type, wipe, length. */
public final class TextTest {
    private static final String WHOLE = "UNB+++R'UNH+M+1'UNT+2+M'UNZ+1+R'";

    public static void main(String[] args) {
        newObject();
        parts();
        wrongBytes();
        fullText();
        wiping();
        Check.end();
    }

    private static void newObject() {
        InterchangeDesk desk = new InterchangeDesk();
        Check.due("length", desk.length(), 0);
        Check.due("fault", desk.fault(), -1);
        for (int type = 0; type < 4; type++) {
            Check.due("clear " + type, desk.clear(type), false);
            Check.due("close " + type, desk.close(type), false);
        }
        for (int k = -2; k < 5; k++) {
            int i = k;
            Check.due("interchange " + i, Check.answer(() -> desk.interchange(i)), Check.STATE);
            Check.due("message " + i, Check.answer(() -> desk.message(i, i)), Check.STATE);
            Check.due("group " + i, Check.answer(() -> desk.group(i)), Check.STATE);
            Check.due("segment " + i, Check.answer(() -> desk.segment(i, i, i, i)), Check.STATE);
            Check.due("print " + i, Check.answer(() -> desk.print(i)), Check.STATE);
            Check.due("report " + i, Check.answer(() -> desk.report(i)), Check.STATE);
        }
        Check.due("read", Check.answer(desk::read), Check.ARGUMENT);
        Check.due("fault", desk.fault(), 0);
        for (int type = 0; type < 4; type++) {
            Check.due("slot " + type, desk.slot(type, Check.tag("AAA"), false, 1), 1);
        }
    }

    private static void parts() {
        InterchangeDesk desk = new InterchangeDesk();
        Check.due("no character", desk.type(0), true);
        Check.due("length", desk.length(), 0);
        // The highest byte comes first, and bytes that are 0 are passed over wherever they stand.
        Check.due("U.N.B.+.", desk.type(0x55004E0042002B00L), true);
        Check.due("..+....+", desk.type(0x00002B000000002BL), true);
        Check.due("length", desk.length(), 6);
        Check.type(desk, "R'UNH+M+1'UNT+2+M'UNZ+1+R'");
        Check.due("length", desk.length(), WHOLE.length());
        Check.due("read", desk.read(), 1);
        Check.due("print", Check.printOf(desk), WHOLE);
        Check.due("length", desk.length(), 0);
    }

    private static void wrongBytes() {
        InterchangeDesk desk = new InterchangeDesk();
        for (int c = 1; c < 256; c++) {
            boolean fine = c >= 32 && c <= 126;
            int before = desk.length();
            Check.due("low byte " + c, desk.type(c), fine);
            Check.due("length", desk.length(), fine ? before + 1 : before);
            desk.wipe();
            Check.due("high byte " + c, desk.type((long) c << 56), fine);
            Check.due("length", desk.length(), fine ? 1 : 0);
            desk.wipe();
        }
        Check.due("seven fine ones and a wrong one", desk.type(0x414141414141411FL), false);
        Check.due("a wrong one and seven fine ones", desk.type(0x7F41414141414141L), false);
        Check.due("length", desk.length(), 0);
        Check.due("all bits", desk.type(-1L), false);
    }

    private static void fullText() {
        InterchangeDesk desk = new InterchangeDesk();
        for (int k = 0; k < 49; k++) {
            Check.due("type", desk.type(Check.part("AAAAAAAA")), true);
        }
        Check.due("seven more", desk.type(Check.part("AAAAAAA")), true);
        Check.due("length", desk.length(), 399);
        Check.due("two more", desk.type(Check.part("AA")), false);
        Check.due("length", desk.length(), 399);
        Check.due("one more", desk.type(Check.part("A")), true);
        Check.due("length", desk.length(), 400);
        Check.due("one too many", desk.type(Check.part("A")), false);
        Check.due("none more", desk.type(0), true);
        Check.due("length", desk.length(), 400);
        desk.wipe();
        Check.due("length", desk.length(), 0);
        Check.due("type", desk.type(Check.part("AAAAAAAA")), true);
        Check.due("length", desk.length(), 8);
    }

    private static void wiping() {
        InterchangeDesk desk = new InterchangeDesk();
        desk.slot(1, Check.tag("AAA"), false, 1);
        Check.due("read", Check.read(desk, WHOLE), 1);
        Check.due("read", Check.read(desk, "AB'"), Check.ARGUMENT);
        desk.wipe();
        Check.due("length", desk.length(), 0);
        Check.due("fault stays", desk.fault(), 2);
        Check.due("interchange stays", Check.printOf(desk), WHOLE);
        Check.due("table stays", desk.slot(1, Check.tag("AAA"), false, 1), 2);
        Check.type(desk, WHOLE);
        Check.due("read", desk.read(), 1);
    }
}
