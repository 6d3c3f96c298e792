/** Promises 1 to 4, and of the terms THE TEXT: a new object, type, wipe, length. */
public final class TextTest {
    private static final String WHOLE = "UNB+++R'UNH+M+1'UNT+2+M'UNZ+1+R'";

    public static void main(String[] args) {
        emptyTextOfNewObject();
        emptyTablesOfNewObject();
        noInterchangeOfNewObject();
        highestByteFirst();
        bytesThatAreZero();
        bytesTooSmallOrTooLarge();
        refusedPartAddsNothing();
        fourHundredCharacters();
        noPartOfWhatIsTooMuch();
        wiping();
        wipingKeepsAllElse();
        lengths();
        Check.end();
    }

    /** "An empty text" */
    private static void emptyTextOfNewObject() {
        Desk desk = new Desk();
        Check.due("length", desk.length(), 0);
        Check.due("fault before a read", desk.fault(), -1);
        Check.due("read", Check.answer(desk::read), Check.ARGUMENT);
        Check.due("fault", desk.fault(), 0);
    }

    /** "empty tables" */
    private static void emptyTablesOfNewObject() {
        Desk desk = new Desk();
        Check.due("read", Check.read(desk, "UNB+++R'UNH+A+0'UNT+2+A'UNH+B+1'UNT+2+B'"
                + "UNH+C+2'UNT+2+C'UNH+D+3'UNT+2+D'UNZ+4+R'"), 4);
        for (int type = 0; type < 4; type++) {
            Check.due("message of type " + type, desk.message(type, 0), 3);
            Check.due("clear " + type, desk.clear(type), false);
            Check.due("close " + type, desk.close(type), false);
            Check.due("slot " + type, desk.slot(type, Check.tag("AAA"), false, 2), 1);
        }
    }

    /** "no interchange" */
    private static void noInterchangeOfNewObject() {
        Desk desk = new Desk();
        for (int k = -3; k < 5; k++) {
            int i = k;
            Check.due("interchange " + i, Check.answer(() -> desk.interchange(i)), Check.STATE);
            Check.due("message " + i, Check.answer(() -> desk.message(i, i)), Check.STATE);
            Check.due("group " + i, Check.answer(() -> desk.group(i)), Check.STATE);
            Check.due("segment " + i, Check.answer(() -> desk.segment(i, i, i, i)), Check.STATE);
            Check.due("print " + i, Check.answer(() -> desk.print(i)), Check.STATE);
            Check.due("report " + i, Check.answer(() -> desk.report(i)), Check.STATE);
        }
    }

    /** "Adds the characters that are the eight bytes of part, the highest first" */
    private static void highestByteFirst() {
        Desk desk = new Desk();
        for (int from = 0; from < WHOLE.length(); from += 8) {
            Check.due("type", desk.type(Check.part(WHOLE.substring(from, from + 8))), true);
            Check.due("length", desk.length(), from + 8);
        }
        Check.due("read", desk.read(), 1);
        Check.due("print", Check.printOf(desk), WHOLE);
    }

    /** "bytes that are 0 are passed over" */
    private static void bytesThatAreZero() {
        Desk desk = new Desk();
        Check.due("no character", desk.type(0), true);
        Check.due("length", desk.length(), 0);
        Check.due("U.N.B.+.", desk.type(0x55004E0042002B00L), true);
        Check.due("length", desk.length(), 4);
        Check.due("..+....+", desk.type(0x00002B000000002BL), true);
        Check.due("length", desk.length(), 6);
        Check.due(".R'UNH.+", desk.type(0x005227554E48002BL), true);
        Check.due("length", desk.length(), 12);
        Check.type(desk, "M+1'UNT+2+M'UNZ+1+R'");
        Check.due("read", desk.read(), 1);
        Check.due("print", Check.printOf(desk), WHOLE);
        // One character alone, in each of the eight places.
        for (int shift = 0; shift < 64; shift += 8) {
            Check.due("one at " + shift, desk.type((long) 'x' << shift), true);
            Check.due("length", desk.length(), 1 + shift / 8);
        }
    }

    /** "false if another byte is not 32 .. 126" */
    private static void bytesTooSmallOrTooLarge() {
        for (int c = 1; c < 256; c++) {
            boolean fine = c >= 32 && c <= 126;
            for (int shift = 0; shift < 64; shift += 8) {
                Desk desk = new Desk();
                long alone = (long) c << shift;
                long others = Check.part("ABCDEFGH") & ~(255L << shift);
                Check.due("byte " + c + " at " + shift, desk.type(alone), fine);
                Check.due("length", desk.length(), fine ? 1 : 0);
                Check.due("with others", desk.type(alone | others), fine);
                Check.due("length", desk.length(), fine ? 9 : 0);
            }
        }
        Check.due("all bits", new Desk().type(-1L), false);
        Check.due("the highest bit", new Desk().type(Long.MIN_VALUE), false);
    }

    private static void refusedPartAddsNothing() {
        Desk desk = new Desk();
        Check.type(desk, WHOLE.substring(0, 20));
        Check.due("the last byte is wrong", desk.type(Check.part("ABCDEFG") << 8 | 31), false);
        Check.due("the first byte is wrong", desk.type(127L << 56 | Check.part("ABCDEFG")), false);
        Check.due("one in the middle is wrong", desk.type(Check.part("ABC") << 40 | 128L << 32), false);
        Check.due("length", desk.length(), 20);
        Check.type(desk, WHOLE.substring(20));
        Check.due("read", desk.read(), 1);
        Check.due("print", Check.printOf(desk), WHOLE);
    }

    private static Desk with(int characters) {
        Desk desk = new Desk();
        Check.type(desk, "A".repeat(characters));
        Check.due("length", desk.length(), characters);
        return desk;
    }

    /** "or there would be more than 400" */
    private static void fourHundredCharacters() {
        for (int more = 1; more <= 8; more++) {
            long part = Check.part("ABCDEFGH".substring(8 - more));
            Desk just = with(400 - more);
            Check.due(more + " up to 400", just.type(part), true);
            Check.due("length", just.length(), 400);
            Check.due("one more", just.type('A'), false);
            Check.due("none more", just.type(0), true);
            Check.due("length", just.length(), 400);
            Desk over = with(401 - more);
            Check.due(more + " up to 401", over.type(part), false);
            Check.due("length", over.length(), 401 - more);
            // Zeros ahead of and behind the characters make them no more.
            Desk apart = with(399);
            Check.due("one among zeros", apart.type((long) 'A' << 8 * (more - 1)), true);
            Check.due("length", apart.length(), 400);
        }
    }

    private static void noPartOfWhatIsTooMuch() {
        String head = "UNB+++R'UNH+M+1'ABC+";
        String tail = "'UNT+3+M'UNZ+1+R'";
        String whole = head + "x".repeat(400 - head.length() - tail.length()) + tail;
        Desk desk = new Desk();
        Check.type(desk, whole.substring(0, 395));
        Check.due("six more", desk.type(Check.part("ABCDEF")), false);
        Check.due("eight more", desk.type(Check.part("ABCDEFGH")), false);
        Check.due("length", desk.length(), 395);
        Check.due("five more", desk.type(Check.part(whole.substring(395))), true);
        Check.due("length", desk.length(), 400);
        Check.due("one more", desk.type('\''), false);
        Check.due("read", desk.read(), 1);
        Check.due("how many printed", desk.print(-1), 400);
        for (int i = 380; i < 400; i++) {
            Check.due("print " + i, desk.print(i), (int) whole.charAt(i));
        }
        Check.due("room again", desk.type(Check.part("ABCDEFGH")), true);
        Check.due("length", desk.length(), 8);
    }

    /** "The text becomes empty." */
    private static void wiping() {
        Desk desk = new Desk();
        desk.wipe();
        Check.due("length of an empty one", desk.length(), 0);
        Check.type(desk, "ABC'");
        desk.wipe();
        Check.due("length", desk.length(), 0);
        Check.due("read", Check.answer(desk::read), Check.ARGUMENT);
        Check.due("fault", desk.fault(), 0);
        Check.type(desk, WHOLE);
        Check.due("read", desk.read(), 1);
        Check.due("print", Check.printOf(desk), WHOLE);
        Check.type(desk, "x".repeat(400));
        desk.wipe();
        Check.due("length of a full one", desk.length(), 0);
        Check.type(desk, "x".repeat(400));
        Check.due("length", desk.length(), 400);
    }

    private static void wipingKeepsAllElse() {
        Desk desk = new Desk();
        desk.slot(1, Check.tag("AAA"), false, 1);
        Check.due("read", Check.read(desk, WHOLE), 1);
        Check.due("read", Check.read(desk, "AB'"), Check.ARGUMENT);
        desk.wipe();
        Check.due("fault stays", desk.fault(), 2);
        Check.due("print stays", Check.printOf(desk), WHOLE);
        Check.due("report stays", Check.reportOf(desk), "UCI+R+0'UCM+M+0'");
        Check.due("table stays", desk.slot(1, Check.tag("AAA"), false, 1), 2);
    }

    /** "How many characters the text has." */
    private static void lengths() {
        Desk desk = new Desk();
        for (int n = 1; n <= 200; n++) {
            desk.type(' ');
            Check.due("length", desk.length(), n);
        }
        desk.wipe();
        // A released character is two of the text.
        Check.type(desk, "ABC+??'");
        Check.due("length", desk.length(), 7);
    }
}
