/** Promises 15 and 16: print and report. */
public final class PaperTest {
    public static void main(String[] args) {
        prints();
        longestPrint();
        reports();
        longestReport();
        placesFar();
        Check.end();
    }

    /** How a segment comes out in the print. */
    private static void printed(String segment, String want) {
        InterchangeDesk desk = Check.having("UNB'UNH'" + segment + "UNT'UNZ'", 1);
        Check.due("print of " + segment, Check.printOf(desk), "UNB'UNH'" + want + "UNT'UNZ'");
    }

    private static void prints() {
        printed("ABC'", "ABC'");
        printed("ABC+'", "ABC'");
        printed("ABC+:'", "ABC'");
        printed("ABC+++:::+:'", "ABC'");
        printed("ABC+a+'", "ABC+a'");
        printed("ABC++a'", "ABC++a'");
        printed("ABC+::+a'", "ABC++a'");
        printed("ABC+::b::+:+c:d:+'", "ABC+::b++c:d'");
        printed("ABC+a::b'", "ABC+a::b'");
        printed("ABC+ '", "ABC+ '");
        printed("ABC+?:+??+?'+?++?a'", "ABC+?:+??+?'+?++a'");
        printed("ABC+?a?b'", "ABC+ab'");
        InterchangeDesk desk = Check.having("UNA!$.# %UNB$+?#$:!'!!$$%UNH%UNT$$1!!%UNZ$!%", 1);
        String print = "UNB+?+??$?::?''UNH'UNT++1'UNZ'";
        Check.due("print", Check.printOf(desk), print);
        Check.due("how many", desk.print(-1), print.length());
        Check.due("the last one", desk.print(print.length() - 1), (int) '\'');
        for (int i : new int[] {print.length(), 1000, -2, Integer.MIN_VALUE, Integer.MAX_VALUE}) {
            Check.due("print " + i, desk.print(i), -1);
        }
        // A shorter one leaves nothing of a longer one.
        Check.due("read", Check.read(desk, "UNB'UNH'UNT'UNZ'"), 1);
        Check.due("print", Check.printOf(desk), "UNB'UNH'UNT'UNZ'");
        Check.due("behind it", desk.print(16), -1);
    }

    private static void longestPrint() {
        int plain = 400 - "UNA!$.# %UNB%UNH%ABC$%UNT%UNZ%".length();
        InterchangeDesk desk = Check.having("UNA!$.# %UNB%UNH%ABC$" + "+".repeat(plain) + "%UNT%UNZ%", 1);
        Check.due("print", Check.printOf(desk), "UNB'UNH'ABC+" + "?+".repeat(plain) + "'UNT'UNZ'");
    }

    private static void reports() {
        InterchangeDesk desk = new InterchangeDesk();
        Check.table(desk, 0, "AAA!");
        Check.due("read", Check.read(desk, "UNB+++I?+1:x'UNH+A?:+0'AAA'UNT+3+A?:'UNH+??+0'UNT+2+??'"
                + "UNH++0'UNT'UNZ+3+I?+1'"), 3);
        String report = "UCI+I?+1+0'UCM+A?:+0'UCM+??+5+5'UCM++1+7'";
        Check.due("report", Check.reportOf(desk), report);
        Check.due("how many", desk.report(-1), report.length());
        for (int i : new int[] {report.length(), 1000, -2, Integer.MIN_VALUE, Integer.MAX_VALUE}) {
            Check.due("report " + i, desk.report(i), -1);
        }
        Check.due("read", Check.read(desk, "UNB+++I'UNG+?'G:H'UNH+A+0'AAA'UNT+3+A'UNH+A+0'UNT+2+A'UNE+2+?'G'"
                + "UNG'UNH+B+7'UNT+2+B'UNE'UNG+K'UNH+C'UNT+5+C'UNE+1+L'UNZ+4+J'"), 4);
        Check.due("report", Check.reportOf(desk), "UCI+I+3'UCF+?'G+0'UCM+A+0'UCM+A+7+5'"
                + "UCF++3'UCM+B+3+9'UCF+K+1'UCM+C+2+14'");
        // A shorter one leaves nothing of a longer one.
        Check.due("read", Check.read(desk, "UNB'UNH'UNT'UNZ'"), 1);
        Check.due("report", Check.reportOf(desk), "UCI++3'UCM++1+2'");
        Check.due("behind it", desk.report(16), -1);
    }

    private static void longestReport() {
        int plain = 400 - "UNA!$.# %UNB%".length() - 19 * 8 - "UNZ%".length() - 1;
        InterchangeDesk desk = Check.having("UNA!$.# %UNB%" + "UNH%UNT%".repeat(18)
                + "UNH$" + "?".repeat(plain) + "%UNT%UNZ%", 19);
        StringBuilder due = new StringBuilder("UCI++3'");
        for (int m = 0; m < 18; m++) {
            due.append("UCM++1+").append(2 * m + 2).append("'");
        }
        due.append("UCM+").append("??".repeat(plain)).append("+1+38'");
        Check.due("report", Check.reportOf(desk), due);
    }

    private static void placesFar() {
        InterchangeDesk desk = new InterchangeDesk();
        Check.table(desk, 2, "AAA9");
        Check.due("read", Check.read(desk, "UNB+++R'UNH+M+2'" + "AAA'".repeat(10) + "UNT+12+M'UNZ+1+R'"), 1);
        Check.due("report", Check.reportOf(desk), "UCI+R+0'UCM+M+6+11'");
        Check.due("read", Check.read(desk, "UNB+++R'UNH+M+2'" + "AAA'".repeat(9) + "BBB'UNT+12+M'UNZ+1+R'"), 1);
        Check.due("report", Check.reportOf(desk), "UCI+R+0'UCM+M+4+11'");
    }
}
