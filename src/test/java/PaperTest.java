/** Promises 15 and 16, and of the terms THE PRINT and THE REPORT. */
public final class PaperTest {
    private static final int[] NOWHERE = {-2, -3, 5000, Integer.MIN_VALUE, Integer.MAX_VALUE};

    public static void main(String[] args) {
        emptyAtTheEnd();
        emptyBefore();
        marksAnew();
        everyCharacter();
        charactersOfThePrint();
        shorterPrintBehindLonger();
        longestPrint();
        linesOfTheReport();
        groupsInTheReport();
        placesInTheReport();
        referencesInTheReport();
        charactersOfTheReport();
        shorterReportBehindLonger();
        longestReport();
        mostLinesOfTheReport();
        Check.end();
    }

    /** How a segment comes out in the print. */
    private static void printed(String segment, String want) {
        Desk desk = Check.having("UNB'UNH'" + segment + "UNT'UNZ'", 1);
        Check.due("print of " + segment, Check.printOf(desk), "UNB'UNH'" + want + "UNT'UNZ'");
        Check.due("how many", desk.print(-1), 16 + want.length());
    }

    /** "empty components at the end of an element, and empty elements at the end .. are left out" */
    private static void emptyAtTheEnd() {
        printed("ABC'", "ABC'");
        printed("ABC+'", "ABC'");
        printed("ABC+:'", "ABC'");
        printed("ABC+++:::+:'", "ABC'");
        printed("ABC+a+'", "ABC+a'");
        printed("ABC+a:'", "ABC+a'");
        printed("ABC+a::'", "ABC+a'");
        printed("ABC+a:+:+::'", "ABC+a'");
        printed("ABC+a:+b:'", "ABC+a+b'");
        printed("ABC" + "+".repeat(120) + "'", "ABC'");
        printed("ABC+" + ":".repeat(119) + "'", "ABC'");
        // The envelopes too.
        Desk desk = Check.having("UNB+++R++:'UNG+:'UNH+M:+1+'UNT+2+M+:'UNE+'UNZ+1:+R:+'", 1);
        Check.due("print", Check.printOf(desk), "UNB+++R'UNG'UNH+M+1'UNT+2+M'UNE'UNZ+1+R'");
    }

    private static void emptyBefore() {
        printed("ABC++a'", "ABC++a'");
        printed("ABC+:a'", "ABC+:a'");
        printed("ABC+::+a'", "ABC++a'");
        printed("ABC+a::b'", "ABC+a::b'");
        printed("ABC+a++b'", "ABC+a++b'");
        printed("ABC+::b::+:+c:d:+'", "ABC+::b++c:d'");
        printed("ABC+ '", "ABC+ '");
        printed("ABC+a: '", "ABC+a: '");
        printed("ABC" + "+".repeat(120) + "x'", "ABC" + "+".repeat(120) + "x'");
        printed("ABC+" + ":".repeat(119) + "x'", "ABC+" + ":".repeat(119) + "x'");
    }

    /** "the marks : + ? ' and ? ahead of each of these four characters in components" */
    private static void marksAnew() {
        printed("ABC+?:+??+?'+?++?a'", "ABC+?:+??+?'+?++a'");
        printed("ABC+?a?b'", "ABC+ab'");
        printed("ABC+?:?:????'", "ABC+?:?:????'");
        Desk desk = Check.having("UNA!$.# %UNB$+?#$:!'!!$$%UNH%UNT$$1!!%UNZ$!%", 1);
        String print = "UNB+?+??$?::?''UNH'UNT++1'UNZ'";
        Check.due("print", Check.printOf(desk), print);
        Desk none = Check.having("UNA!$.  %UNB$+?#:'.%UNH%UNT%UNZ%", 1);
        Check.due("print", Check.printOf(none), "UNB+?+??#?:?'.'UNH'UNT'UNZ'");
    }

    private static void everyCharacter() {
        for (char c = 32; c <= 126; c++) {
            String want = (":+?'".indexOf(c) >= 0 ? "?" : "") + c;
            printed("ABC+?" + c + ":x?" + c + "'", "ABC+" + want + ":x" + want + "'");
        }
    }

    /** "Character i of the PRINT, as its code; how many it has, if i is -1; NONE if there is none such." */
    private static void charactersOfThePrint() {
        String print = "UNB+++R'UNH+?:x'UNT'UNZ'";
        Desk desk = Check.having(print, 1);
        Check.due("how many", desk.print(-1), print.length());
        for (int i = 0; i < print.length(); i++) {
            Check.due("print " + i, desk.print(i), (int) print.charAt(i));
        }
        Check.due("behind the last one", desk.print(print.length()), -1);
        for (int i : NOWHERE) {
            Check.due("print " + i, desk.print(i), -1);
        }
    }

    private static void shorterPrintBehindLonger() {
        Desk desk = Check.having("UNB+++R'UNH+?:x'UNT'UNZ'", 1);
        Check.due("read", Check.read(desk, "UNB'UNH'UNT'UNZ'"), 1);
        Check.due("print", Check.printOf(desk), "UNB'UNH'UNT'UNZ'");
        Check.due("behind it", desk.print(16), -1);
    }

    private static void longestPrint() {
        int plain = 400 - "UNA!$.# %UNB%UNH%ABC$%UNT%UNZ%".length();
        String text = "UNA!$.# %UNB%UNH%ABC$" + "+".repeat(plain) + "%UNT%UNZ%";
        String print = "UNB'UNH'ABC+" + "?+".repeat(plain) + "'UNT'UNZ'";
        // More characters than one desk may be asked for.
        for (int from = 0; from < print.length(); from += 300) {
            Desk desk = Check.having(text, 1);
            Check.due("how many", desk.print(-1), print.length());
            for (int i = from; i < Math.min(print.length(), from + 300); i++) {
                Check.due("print " + i, desk.print(i), (int) print.charAt(i));
            }
            Check.due("behind the last one", desk.print(print.length()), -1);
        }
    }

    /** "UCI, +, the interchange's reference, +, its CODE, '; then .. for each message .. UCM, +, .." */
    private static void linesOfTheReport() {
        Desk desk = new Desk();
        Check.table(desk, 0, "AAA!");
        Check.due("read", Check.read(desk, "UNB+++I'UNH+A+0'AAA'UNT+3+A'UNZ+1+I'"), 1);
        Check.due("report", Check.reportOf(desk), "UCI+I+0'UCM+A+0'");
        Check.due("read", Check.read(desk, "UNB+++I'UNH+A+0'AAA'UNT+3+A'UNH+B+0'UNT+2+B'UNZ+1+J'"), 2);
        Check.due("report", Check.reportOf(desk), "UCI+I+3'UCM+A+0'UCM+B+5+5'");
        Check.due("read", Check.read(desk, "UNB+++I'UNH+A+0'AAA'UNT+3+A'UNZ+1+J'"), 1);
        Check.due("report", Check.reportOf(desk), "UCI+I+1'UCM+A+0'");
        Check.due("read", Check.read(desk, "UNB+++I'UNH+A+0'AAA'UNT+3+A'UNZ+2+I'"), 1);
        Check.due("report", Check.reportOf(desk), "UCI+I+2'UCM+A+0'");
    }

    /** "for each group UCF, +, its reference, +, its CODE, ', and for each message (behind its group's line)" */
    private static void groupsInTheReport() {
        Desk desk = new Desk();
        Check.table(desk, 0, "AAA!");
        Check.due("read", Check.read(desk, "UNB+++I'UNG+?'G:H'UNH+A+0'AAA'UNT+3+A'UNH+A+0'UNT+2+A'UNE+2+?'G'"
                + "UNG'UNH+B+7'UNT+2+B'UNE'UNG+K'UNH+C'UNT+5+C'UNE+1+L'UNZ+4+J'"), 4);
        Check.due("report", Check.reportOf(desk), "UCI+I+3'UCF+?'G+0'UCM+A+0'UCM+A+7+5'"
                + "UCF++3'UCM+B+3+9'UCF+K+1'UCM+C+2+14'");
        Desk many = Check.having("UNB'" + "UNG'UNH'UNT'UNE'".repeat(9) + "UNZ'", 9);
        StringBuilder due = new StringBuilder("UCI++3'");
        for (int g = 0; g < 9; g++) {
            due.append("UCF++3'UCM++1+").append(4 * g + 3).append("'");
        }
        Check.due("nine groups", Check.reportOf(many), due);
    }

    /** "and, if that is not 0, + and its PLACE" */
    private static void placesInTheReport() {
        Desk desk = new Desk();
        Check.table(desk, 2, "AAA9");
        for (int n = 0; n <= 9; n++) {
            Check.due("read", Check.read(desk, "UNB+++R'UNH+M+2'" + "AAA'".repeat(n) + "BBB'UNT+" + (n + 3)
                    + "+M'UNZ+1+R'"), 1);
            Check.due("report", Check.reportOf(desk), "UCI+R+0'UCM+M+4+" + (n + 2) + "'");
        }
        Desk other = new Desk();
        Check.table(other, 2, "AAA9");
        Check.due("read", Check.read(other, "UNB+++R'UNH+M+2'" + "AAA'".repeat(10) + "UNT+12+M'UNZ+1+R'"), 1);
        Check.due("report", Check.reportOf(other), "UCI+R+0'UCM+M+6+11'");
        Check.due("read", Check.read(other, "UNB+++R'UNH+M+2'" + "AAA'".repeat(36) + "UNT+39+M'UNZ+1+R'"), 1);
        Check.due("report", Check.reportOf(other), "UCI+R+0'UCM+M+2+38'");
        Check.due("read", Check.read(other, "UNB+++R'UNH+M+2'" + "AAA'".repeat(9) + "UNT+11+M'UNZ+1+R'"), 1);
        Check.due("no place for 0", Check.reportOf(other), "UCI+R+0'UCM+M+0'");
    }

    /** "References are written with ? ahead of marks as in the print." */
    private static void referencesInTheReport() {
        Desk desk = Check.having("UNB+++?+??a:b'UNG+?:?':c'UNH+????:d'UNT'UNE'UNZ'", 1);
        Check.due("report", Check.reportOf(desk), "UCI+?+??a+3'UCF+?:?'+3'UCM+????+1+3'");
        Desk chosen = Check.having("UNA!$.# %UNB$$$+?#$#!%UNG$:%UNH$'%UNT%UNE%UNZ%", 1);
        Check.due("report", Check.reportOf(chosen), "UCI+?+??$!+3'UCF+?:+3'UCM+?'+1+3'");
        // One that is not there is as an empty one.
        Desk none = Check.having("UNB'UNG'UNH'UNT'UNE'UNZ'", 1);
        Check.due("report", Check.reportOf(none), "UCI++3'UCF++3'UCM++1+3'");
        // The references are those of the beginnings.
        Desk ends = Check.having("UNB+++R'UNG+G'UNH+M'UNT+2+N'UNE+1+H'UNZ+1+S'", 1);
        Check.due("report", Check.reportOf(ends), "UCI+R+1'UCF+G+1'UCM+M+1+3'");
    }

    /** "Character i of the REPORT, as its code; how many it has, if i is -1; NONE if there is none such." */
    private static void charactersOfTheReport() {
        Desk desk = Check.having("UNB+++R'UNH+M'UNT'UNZ'", 1);
        String report = "UCI+R+3'UCM+M+1+2'";
        Check.due("how many", desk.report(-1), report.length());
        for (int i = 0; i < report.length(); i++) {
            Check.due("report " + i, desk.report(i), (int) report.charAt(i));
        }
        Check.due("behind the last one", desk.report(report.length()), -1);
        for (int i : NOWHERE) {
            Check.due("report " + i, desk.report(i), -1);
        }
    }

    private static void shorterReportBehindLonger() {
        Desk desk = Check.having("UNB+++R'UNG+xxxxxxxx'UNH'UNT'UNH'UNT'UNE'UNZ'", 2);
        Check.due("read", Check.read(desk, "UNB'UNH'UNT'UNZ'"), 1);
        Check.due("report", Check.reportOf(desk), "UCI++3'UCM++1+2'");
        Check.due("behind it", desk.report(16), -1);
    }

    /** The report of a text, asked for on several desks: it has more characters than one may be asked for. */
    private static void reported(String text, int messages, String report) {
        Check.due("how long the text is", text.length(), 400);
        for (int from = 0; from < report.length(); from += 300) {
            Desk desk = Check.having(text, messages);
            Check.due("how many", desk.report(-1), report.length());
            for (int i = from; i < Math.min(report.length(), from + 300); i++) {
                Check.due("report " + i, desk.report(i), (int) report.charAt(i));
            }
            Check.due("behind the last one", desk.report(report.length()), -1);
        }
    }

    private static void longestReport() {
        int most = 400 - "UNA!$.# %UNB%UNH$%UNT%UNZ%".length();
        reported("UNA!$.# %UNB%UNH$" + "?".repeat(most) + "%UNT%UNZ%", 1,
                "UCI++3'UCM+" + "??".repeat(most) + "+1+2'");
        int less = 400 - "UNA!$.# %UNB$$$%UNG%UNH%UNT%UNE%UNZ%".length();
        reported("UNA!$.# %UNB$$$" + "+".repeat(less) + "%UNG%UNH%UNT%UNE%UNZ%", 1,
                "UCI+" + "?+".repeat(less) + "+3'UCF++3'UCM++1+3'");
    }

    private static void mostLinesOfTheReport() {
        int plain = 400 - "UNA!$.# %UNB%".length() - 19 * 8 - "UNZ%".length() - 1;
        StringBuilder report = new StringBuilder("UCI++3'");
        for (int m = 0; m < 18; m++) {
            report.append("UCM++1+").append(2 * m + 2).append("'");
        }
        report.append("UCM+").append("??".repeat(plain)).append("+1+38'");
        reported("UNA!$.# %UNB%" + "UNH%UNT%".repeat(18) + "UNH$" + "?".repeat(plain) + "%UNT%UNZ%", 19,
                report.toString());
    }
}
