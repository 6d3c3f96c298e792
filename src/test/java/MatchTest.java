/** Promise 9 and 12: how a message is matched by its table, and the CODE and PLACE that come of it. */
public final class MatchTest {
    public static void main(String[] args) {
        segmentsOnly();
        groupsOfSegments();
        groupsInGroups();
        openLists();
        ends();
        codesInOrder();
        repeatedReferences();
        types();
        Check.end();
    }

    private static void is(InterchangeDesk desk, String tags, String want) {
        String[] each = tags.isEmpty() ? new String[0] : tags.split(" ");
        Check.due("message of " + tags, Check.verdictOf(desk, each), want);
    }

    private static InterchangeDesk with(String words) {
        InterchangeDesk desk = new InterchangeDesk();
        Check.table(desk, 1, words);
        return desk;
    }

    private static void segmentsOnly() {
        InterchangeDesk desk = with("AAA!1 BBB2 CCC!3");
        is(desk, "AAA CCC", "0 at -1");
        is(desk, "AAA BBB BBB CCC CCC CCC", "0 at -1");
        is(desk, "", "5 at 2");
        is(desk, "AAA", "5 at 3");
        is(desk, "AAA BBB", "5 at 4");
        is(desk, "BBB", "5 at 2");
        is(desk, "CCC", "5 at 2");
        is(desk, "AAA AAA CCC", "6 at 3");
        is(desk, "AAA BBB BBB BBB CCC", "6 at 5");
        is(desk, "AAA CCC CCC CCC CCC", "6 at 6");
        is(desk, "AAA CCC BBB", "4 at 4");
        is(desk, "AAA CCC XXX", "4 at 4");
        is(desk, "AAA XXX CCC", "5 at 3");
        is(desk, "AAA CCC XXX YYY", "4 at 4");

        // One stays at an item that was had as often as may be, even if the next one has its tag.
        is(with("AAA1 AAA1"), "AAA AAA", "6 at 3");
        is(with("AAA1 BBB AAA1"), "AAA BBB AAA", "0 at -1");
        is(with("AAA99"), "AAA ".repeat(36).trim(), "0 at -1");
        is(with("AAA"), "", "0 at -1");
    }

    private static void groupsOfSegments() {
        InterchangeDesk desk = with("AAA (2 BBB! CCC!2 DDD ) EEE!");
        is(desk, "EEE", "0 at -1");
        is(desk, "BBB CCC EEE", "0 at -1");
        is(desk, "BBB CCC CCC DDD BBB CCC EEE", "0 at -1");
        is(desk, "BBB CCC BBB CCC BBB CCC EEE", "6 at 6");
        is(desk, "BBB EEE", "5 at 3");
        is(desk, "BBB BBB CCC EEE", "5 at 3");
        is(desk, "BBB CCC BBB EEE", "5 at 5");
        is(desk, "BBB CCC CCC CCC EEE", "6 at 5");
        is(desk, "CCC", "5 at 2");
        is(desk, "BBB CCC DDD CCC EEE", "5 at 5");
        is(desk, "BBB CCC EEE BBB", "4 at 5");
        is(desk, "BBB CCC", "5 at 4");

        InterchangeDesk alone = with("(3 BBB! ) CCC");
        is(alone, "BBB BBB BBB CCC", "0 at -1");
        is(alone, "BBB BBB BBB BBB", "6 at 5");
        is(alone, "BBB BBB XXX", "4 at 4");
        is(alone, "", "0 at -1");

        InterchangeDesk must = with("(!3 BBB! CCC ) DDD");
        is(must, "", "5 at 2");
        is(must, "DDD", "5 at 2");
        is(must, "BBB DDD", "0 at -1");
        // The items of a group are had anew each time it is.
        is(must, "BBB CCC BBB CCC BBB CCC DDD", "0 at -1");
        is(must, "BBB CCC CCC", "6 at 4");
    }

    private static void groupsInGroups() {
        InterchangeDesk desk = with("(9 AAA! (2 BBB! (!2 CCC! DDD! ) ) EEE ) FFF!");
        is(desk, "FFF", "0 at -1");
        is(desk, "AAA FFF", "0 at -1");
        is(desk, "AAA BBB CCC DDD FFF", "0 at -1");
        is(desk, "AAA BBB CCC DDD CCC DDD BBB CCC DDD EEE AAA FFF", "0 at -1");
        is(desk, "AAA BBB CCC DDD AAA BBB CCC DDD CCC DDD FFF", "0 at -1");
        is(desk, "AAA BBB FFF", "5 at 4");
        is(desk, "AAA BBB BBB", "5 at 4");
        is(desk, "AAA BBB CCC AAA", "5 at 5");
        is(desk, "AAA BBB CCC DDD CCC DDD CCC", "6 at 8");
        is(desk, "AAA BBB CCC DDD BBB CCC DDD BBB", "6 at 9");
        // A group inside is had from none again when the one around it is had again.
        is(desk, "AAA BBB CCC DDD BBB CCC DDD AAA BBB CCC DDD BBB CCC DDD FFF", "0 at -1");
        is(desk, "AAA EEE BBB", "5 at 4");
        is(desk, "AAA BBB CCC DDD FFF AAA", "4 at 7");
    }

    private static void openLists() {
        InterchangeDesk desk = with("AAA (2 BBB! CCC");
        is(desk, "AAA BBB CCC BBB", "0 at -1");
        is(desk, "AAA BBB CCC DDD", "4 at 5");
        is(desk, "BBB CCC BBB CCC BBB", "6 at 6");
        Check.due("the list stays open", desk.slot(1, Check.tag("DDD"), true, 1), 5);
        is(desk, "AAA BBB CCC DDD", "0 at -1");
        is(desk, "AAA BBB CCC", "5 at 5");

        InterchangeDesk empty = with("AAA (2");
        is(empty, "AAA", "0 at -1");
        is(empty, "AAA BBB", "4 at 3");
        InterchangeDesk must = with("AAA (!2");
        is(must, "AAA", "5 at 3");
        is(must, "AAA BBB", "5 at 3");
        is(with("AAA (2 BBB! (!1"), "AAA", "0 at -1");
        is(with("AAA (2 BBB! (!1"), "AAA BBB", "5 at 4");
        is(with("AAA (2 BBB! (1"), "AAA BBB BBB", "0 at -1");
        is(with("(2"), "", "0 at -1");
        is(with("(!2"), "", "5 at 2");
    }

    private static void ends() {
        InterchangeDesk inner = with("(1 AAA! (1 BBB! CCC! ) ) DDD");
        is(inner, "AAA", "0 at -1");
        is(inner, "AAA BBB", "5 at 4");
        is(inner, "AAA BBB CCC", "0 at -1");
        is(with("(1 AAA! (1 BBB! ) CCC! ) DDD"), "AAA BBB", "5 at 4");
        is(with("(1 AAA! (1 BBB! ) CCC ) DDD!"), "AAA BBB", "5 at 4");
        is(with("(1 AAA! (1 BBB! ) CCC ) DDD"), "AAA BBB", "0 at -1");
        is(with("(1 AAA! (!1 BBB! ) )"), "AAA", "5 at 3");
        // What an item that was not had would ask for inside of it does not count.
        is(with("AAA (1 BBB! CCC! )"), "AAA", "0 at -1");
    }

    /** CODE and PLACE of the one message between these two ends. */
    private static void judged(String unh, String unt, String want) {
        InterchangeDesk desk = with("AAA!");
        Check.due("read", Check.read(desk, "UNB+++R'" + unh + "'AAA'" + unt + "'UNZ+1+R'"), 1);
        Check.due(unh + " " + unt, Check.verdict(desk, 0), want);
    }

    private static void codesInOrder() {
        judged("UNH+M+1", "UNT+3+M", "0 at -1");
        judged("UNH+M:x:y+1:2+z", "UNT+3:4+M:z+q", "0 at -1");
        judged("UNH+?M+?1", "UNT+?3+M", "0 at -1");
        judged("UNH+M+1", "UNT+3+N", "1 at 3");
        judged("UNH+M+1", "UNT+3+MM", "1 at 3");
        judged("UNH+M+1", "UNT+3+m", "1 at 3");
        judged("UNH+M+1", "UNT+3", "1 at 3");
        judged("UNH+M+1", "UNT", "1 at 3");
        judged("UNH++1", "UNT+3+", "1 at 3");
        judged("UNH", "UNT+3", "1 at 3");
        judged("UNH+:M+1", "UNT+3+:M", "1 at 3");
        judged("UNH++1", "UNT+4", "1 at 3");
        for (String count : new String[] {"2", "4", "", "03", "003", "3 ", " 3", "+3", "3x", "x", "33", "0003", "-3"}) {
            judged("UNH+M+9", "UNT+" + (count.equals("+3") ? "?+3" : count) + "+M", "2 at 3");
        }
        for (String type : new String[] {"", "4", "9", "11", "01", "1 ", " 1", "x", "/", "?:", "0", "2", "3"}) {
            judged("UNH+M+" + type, "UNT+3+M", "3 at 1");
        }
        judged("UNH+M", "UNT+3+M", "3 at 1");
        judged("UNH+M+:1", "UNT+3+M", "3 at 1");
    }

    private static void repeatedReferences() {
        InterchangeDesk desk = with("AAA");
        Check.due("read", Check.read(desk, "UNB+++R'UNH+M+1'UNT+2+M'UNH+M+9'UNT+2+M'UNH+M+1'UNT+9+M'"
                + "UNH+N+1'UNT+2+M'UNH+N+1'UNT+2+N'UNH+M'UNT+2+N'UNZ+6+R'"), 6);
        Check.due("message 0", Check.verdict(desk, 0), "0 at -1");
        Check.due("7 before 3", Check.verdict(desk, 1), "7 at 3");
        Check.due("2 before 7", Check.verdict(desk, 2), "2 at 6");
        Check.due("1 alone", Check.verdict(desk, 3), "1 at 8");
        Check.due("as one that was not taken", Check.verdict(desk, 4), "7 at 9");
        Check.due("1 before 7", Check.verdict(desk, 5), "1 at 12");

        Check.due("read", Check.read(desk, "UNB+++R'UNG+G'UNH+M+1'UNT+2+M'UNE+1+G'"
                + "UNG+H'UNH+N+1'UNT+2+N'UNH+M+1'BBB'UNT+3+M'UNE+2+H'UNZ+2+R'"), 3);
        Check.due("in another group", Check.verdict(desk, 2), "7 at 8");
        Check.due("7 before an error", desk.message(2, 2), 3);
        // As much as a beginning alone is not the same.
        Check.due("read", Check.read(desk, "UNB+++R'UNH+M+1'UNT+2+M'UNH+MM+1'UNT+2+MM'UNZ+2+R'"), 2);
        Check.due("a longer one", Check.verdict(desk, 1), "0 at -1");
    }

    private static void types() {
        InterchangeDesk desk = new InterchangeDesk();
        for (int type = 0; type < 4; type++) {
            desk.slot(type, Check.tag("AAA") + type, true, 1);
        }
        Check.due("read", Check.read(desk, "UNB+++R'UNH+A+0'AAA'UNT+3+A'UNH+B+1'AAB'UNT+3+B'"
                + "UNH+C+2'AAC'UNT+3+C'UNH+D+3'AAD'UNT+3+D'UNH+E+3'AAA'UNT+3+E'UNZ+5+R'"), 5);
        for (int m = 0; m < 4; m++) {
            Check.due("message " + m, Check.verdict(desk, m), "0 at -1");
        }
        Check.due("message 4", Check.verdict(desk, 4), "5 at 14");
    }
}
