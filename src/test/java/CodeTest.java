/** Of the terms: the CODE of a message, the first of what may be wrong with it, and its PLACE. */
public final class CodeTest {
    public static void main(String[] args) {
        firstOfAll();
        wrongReferences();
        wrongCounts();
        repeatedReferences();
        types();
        emptyTables();
        placesInTheInterchange();
        Check.end();
    }

    /**
     * "The CODE of a message is the first of these": all that may be wrong, in all ways together,
     * with the second message of an interchange, which stands at the segments 4 to 6.
     */
    private static void firstOfAll() {
        for (int wrong = 0; wrong < 32; wrong++) {
            Desk desk = new Desk();
            Check.table(desk, 1, "AAA!");
            String reference = (wrong & 4) != 0 ? "M" : "N";
            String message = "UNH+" + reference + "+" + ((wrong & 8) != 0 ? "4" : "1") + "'"
                    + ((wrong & 16) != 0 ? "BBB'" : "AAA'")
                    + "UNT+" + ((wrong & 2) != 0 ? "4" : "3") + "+" + ((wrong & 1) != 0 ? "X" : reference) + "'";
            Check.due("read", Check.read(desk, "UNB+++R'UNH+M+1'AAA'UNT+3+M'" + message + "UNZ+2+R'"), 2);
            String want = (wrong & 1) != 0 ? "1 at 6"
                    : (wrong & 2) != 0 ? "2 at 6"
                    : (wrong & 4) != 0 ? "7 at 4"
                    : (wrong & 8) != 0 ? "3 at 4"
                    : (wrong & 16) != 0 ? "5 at 5" : "0 at -1";
            Check.due(message, Check.verdict(desk, 1), want);
            Check.due("the one before", Check.verdict(desk, 0), "0 at -1");
        }
    }

    /** CODE and PLACE of the one message between these two ends. */
    private static void judged(String unh, String unt, String want) {
        Desk desk = new Desk();
        Check.table(desk, 1, "AAA!");
        Check.due("read", Check.read(desk, "UNB+++R'" + unh + "'AAA'" + unt + "'UNZ+1+R'"), 1);
        Check.due(unh + " " + unt, Check.verdict(desk, 0), want);
    }

    /** "1 the reference of UNT is not RIGHT" */
    private static void wrongReferences() {
        judged("UNH+M+1", "UNT+3+M", "0 at -1");
        judged("UNH+M:x:y+1:2+z", "UNT+3:4+M:z+q", "0 at -1");
        judged("UNH+?M+?1", "UNT+?3+M", "0 at -1");
        judged("UNH+M+1", "UNT+3+N", "1 at 3");
        judged("UNH+M+1", "UNT+3+MM", "1 at 3");
        judged("UNH+M+1", "UNT+3+m", "1 at 3");
        judged("UNH+M+1", "UNT+3", "1 at 3");
        judged("UNH+M+1", "UNT", "1 at 3");
        judged("UNH++1", "UNT+3+", "1 at 3");
        judged("UNH", "UNT+3", "1 at 3");
        judged("UNH+:M+1", "UNT+3+:M", "1 at 3");
        judged("UNH++1", "UNT+4", "1 at 3");
    }

    /** "2 its COUNT is not" */
    private static void wrongCounts() {
        for (String count : new String[] {
            "2", "4", "", "0", "03", "003", "3 ", " 3", "?+3", "3x", "x", "33", "0003", "-3", "259", "4294967299"}) {
            judged("UNH+M+9", "UNT+" + count + "+M", "2 at 3");
        }
    }

    /** "7 a message before it in the interchange has the same reference" */
    private static void repeatedReferences() {
        Desk desk = new Desk();
        Check.table(desk, 1, "AAA");
        Check.due("read", Check.read(desk, "UNB+++R'UNH+M+1'UNT+2+M'UNH+M+9'UNT+2+M'UNH+M+1'UNT+9+M'"
                + "UNH+N+1'UNT+2+M'UNH+N+1'UNT+2+N'UNH+M'UNT+2+N'UNZ+6+R'"), 6);
        Check.due("message 0", Check.verdict(desk, 0), "0 at -1");
        Check.due("7 before 3", Check.verdict(desk, 1), "7 at 3");
        Check.due("2 before 7", Check.verdict(desk, 2), "2 at 6");
        Check.due("1 alone", Check.verdict(desk, 3), "1 at 8");
        Check.due("as one that was not taken", Check.verdict(desk, 4), "7 at 9");
        Check.due("1 before 7", Check.verdict(desk, 5), "1 at 12");

        Check.due("read", Check.read(desk, "UNB+++R'UNG+G'UNH+M+1'UNT+2+M'UNE+1+G'"
                + "UNG+H'UNH+N+1'UNT+2+N'UNH+M+1'BBB'UNT+3+M'UNE+2+H'UNZ+2+R'"), 3);
        Check.due("in another group", Check.verdict(desk, 2), "7 at 8");
        Check.due("its segments", desk.message(2, 2), 3);
        Check.due("one between them", Check.verdict(desk, 1), "0 at -1");
        // A beginning alone is not the same, nor is one of an interchange before.
        Check.due("read", Check.read(desk, "UNB+++R'UNH+M+1'UNT+2+M'UNH+MM+1'UNT+2+MM'"
                + "UNH+m+1'UNT+2+m'UNZ+3+R'"), 3);
        Check.due("message 0", Check.verdict(desk, 0), "0 at -1");
        Check.due("a longer one", Check.verdict(desk, 1), "0 at -1");
        Check.due("a small one", Check.verdict(desk, 2), "0 at -1");
        // The references of groups and of the interchange are others.
        Check.due("read", Check.read(desk, "UNB+++M'UNG+M'UNH+M+1'UNT+2+M'UNE+1+M'UNZ+1+M'"), 1);
        Check.due("same as the others", Check.verdict(desk, 0), "0 at -1");
        // The last of 19 with the first one's reference.
        StringBuilder many = new StringBuilder("UNB'");
        for (int m = 0; m < 19; m++) {
            String reference = String.valueOf((char) ('A' + m % 18));
            many.append("UNH+").append(reference).append("+1'UNT+2+").append(reference).append("'");
        }
        Check.due("read", Check.read(desk, many + "UNZ'"), 19);
        Check.due("message 17", Check.verdict(desk, 17), "0 at -1");
        Check.due("message 18", Check.verdict(desk, 18), "7 at 37");
    }

    /** "3 its TYPE is none of 0 .. 3" */
    private static void types() {
        for (String type : new String[] {
            "", "4", "5", "9", "11", "01", "1 ", " 1", "x", "/", "?:", "-1", "1x", "?+1", "10", "257"}) {
            Desk desk = new Desk();
            for (int k = 0; k < 4; k++) {
                Check.table(desk, k, "AAA!");
            }
            Check.due("read", Check.read(desk, "UNB+++R'UNH+M+" + type + "'AAA'UNT+3+M'UNZ+1+R'"), 1);
            Check.due("type " + type, Check.verdict(desk, 0), "3 at 1");
        }
        judged("UNH+M", "UNT+3+M", "3 at 1");
        judged("UNH+M+:1", "UNT+3+M", "3 at 1");
        Desk desk = new Desk();
        for (int type = 0; type < 4; type++) {
            desk.slot(type, Check.tag("AAA") + type, true, 1);
        }
        Check.due("read", Check.read(desk, "UNB+++R'UNH+A+0'AAA'UNT+3+A'UNH+B+1'AAB'UNT+3+B'"
                + "UNH+C+2'AAC'UNT+3+C'UNH+D+3'AAD'UNT+3+D'UNH+E+3'AAA'UNT+3+E'UNZ+5+R'"), 5);
        for (int m = 0; m < 4; m++) {
            Check.due("message " + m, Check.verdict(desk, m), "0 at -1");
        }
        Check.due("message 4", Check.verdict(desk, 4), "5 at 14");
    }

    /** "or has an empty table" */
    private static void emptyTables() {
        for (int type = 0; type < 4; type++) {
            for (int filled = 0; filled < 4; filled++) {
                Desk desk = new Desk();
                desk.slot(filled, Check.tag("AAA"), false, 1);
                Check.due("read", Check.read(desk, "UNB'UNH+M+" + type + "'UNT+2+M'UNZ'"), 1);
                Check.due("type " + type, Check.verdict(desk, 0), type == filled ? "0 at -1" : "3 at 1");
            }
        }
        Desk desk = new Desk();
        desk.open(2, false, 1);
        Check.due("read", Check.read(desk, "UNB'UNH+M+2'UNT+2+M'UNZ'"), 1);
        Check.due("a group alone is an item", Check.verdict(desk, 0), "0 at -1");
        Check.due("clear", desk.clear(2), true);
        Check.due("read", Check.read(desk, "UNB'UNH+M+2'UNT+2+M'UNZ'"), 1);
        Check.due("empty again", Check.verdict(desk, 0), "3 at 1");
    }

    /** "Its PLACE is the segment at which that was found (in the interchange, from 0) .." */
    private static void placesInTheInterchange() {
        Desk desk = new Desk();
        Check.table(desk, 1, "AAA!1 BBB1");
        Check.due("read", Check.read(desk, "UNA:+.? 'UNB'UNG'UNH+A+1'UNT+2+B'UNH+B+1'AAA'UNT+2+B'UNE'"
                + "UNG'UNH+B+1'AAA'UNT+3+B'UNH+C+7'AAA'UNT+3+C'UNH+D+1'AAA'BBB'CCC'UNT+5+D'UNE'"
                + "UNG'UNH+E+1'BBB'UNT+3+E'UNH+F+1'AAA'AAA'UNT+4+F'UNH+G+1'UNT+2+G'UNH+H+1'AAA'UNT+3+H'UNE'UNZ'"), 9);
        String[] due = {"1 at 3", "2 at 6", "7 at 9", "3 at 12", "4 at 18", "5 at 23", "6 at 27", "5 at 30", "0 at -1"};
        for (int m = 0; m < due.length; m++) {
            Check.due("message " + m, Check.verdict(desk, m), due[m]);
        }
    }
}
