/** Promises 9 and 10: read and fault. */
public final class ReadTest {
    private static final String ONE = "UNB+++R'UNH+M+1'UNT+2+M'UNZ+1+R'";

    public static void main(String[] args) {
        segments();
        chosenMarks();
        wrongMarks();
        limits();
        envelopes();
        throwsChangeNothing();
        manyReads();
        tablesAsTheyAre();
        Check.end();
    }

    /** A text that is not segments, and how many of its characters are fine. */
    private static void faulty(String text, int fine) {
        InterchangeDesk desk = new InterchangeDesk();
        Check.due("read " + text, Check.read(desk, text), Check.ARGUMENT);
        Check.due("fault of " + text, desk.fault(), fine);
        Check.due("length of " + text, desk.length(), text.length());
    }

    /** A text that is segments, but not in envelopes as said. */
    private static void unfit(String text) {
        InterchangeDesk desk = new InterchangeDesk();
        Check.due("read " + text, Check.read(desk, text), Check.UNSUPPORTED);
        Check.due("fault of " + text, desk.fault(), -1);
        Check.due("length of " + text, desk.length(), text.length());
        Check.due("print", Check.answer(() -> desk.print(-1)), Check.STATE);
    }

    private static InterchangeDesk fine(String text, int messages) {
        InterchangeDesk desk = Check.having(text, messages);
        Check.due("fault of " + text, desk.fault(), -1);
        Check.due("length", desk.length(), 0);
        return desk;
    }

    private static void segments() {
        faulty("", 0);
        faulty(" ", 0);
        faulty("U", 1);
        faulty("u", 0);
        faulty("Un", 1);
        faulty("ABCD'", 3);
        faulty("ABC?'", 3);
        faulty("ABC:'", 3);
        faulty("ABC '", 3);
        faulty("ABC+", 4);
        faulty("ABC+a:b+c?", 10);
        faulty("ABC+a:b+c?'", 11);
        faulty("ABC+'x", 5);
        faulty("ABC''", 4);
        faulty("ABC' ", 4);
        faulty("ABC'DEF", 7);
        faulty("ABC'DEFG", 7);
        faulty("@BC'", 0);
        faulty("A[C'", 1);
        unfit("ABC'");
        unfit("ABC+++:::'");
        unfit("ABC+abc xyz ~!'");
        unfit("ABC+??+?++?:+?'+?x+? '");
        fine(ONE, 1);
        faulty("XNA:", 3);
        faulty("UXA:", 3);
        faulty("UNX:", 3);
        faulty("XXA:", 3);
        unfit("XNA+'");
        unfit("UXA+'");
        unfit("UNX+'");
        // Where the text does not begin with UNA, that is a tag like any other.
        fine("UNB+++R'UNH+M+1'UNA'UNT+3+M'UNZ+1+R'", 1);
        unfit("ABC'UNA+x'");
    }

    private static void chosenMarks() {
        InterchangeDesk desk = fine("UNA*!x% #UNB!!!R%%:+#UNH!M!1#ABC!a*b*%*%!%##UNT!3!M#UNZ!1!R%%:+#", 1);
        Check.due("print", Check.printOf(desk),
                "UNB+++R%?:?+'UNH+M+1'ABC+a:b:*!#'UNT+3+M'UNZ+1+R%?:?+'");
        // The third one is any one: a mark, a letter, a blank.
        fine("UNA:+:? 'UNB+++R'UNH+M+1'UNT+2+M'UNZ+1+R'", 1);
        fine("UNA:+ ? 'UNB+++R'UNH+M+1'UNT+2+M'UNZ+1+R'", 1);
        fine("UNA:+A? 'UNB+++R'UNH+M+1'UNT+2+M'UNZ+1+R'", 1);
        // A blank for no release mark leaves ? and the blank plain characters.
        InterchangeDesk none = fine("UNA:+.  'UNB+++R? ?'UNH+M+1'UNT+2+M'UNZ+1+R? ?'", 1);
        Check.due("print", Check.printOf(none), "UNB+++R?? ??'UNH+M+1'UNT+2+M'UNZ+1+R?? ??'");
        // The marks of one text do not stay for the next one.
        Check.due("read", Check.read(none, "UNB+++R?+'UNH+M+1'UNT+2+M'UNZ+1+R?+'"), 1);
        Check.due("print", Check.printOf(none), "UNB+++R?+'UNH+M+1'UNT+2+M'UNZ+1+R?+'");
    }

    private static void wrongMarks() {
        faulty("UNA", 3);
        faulty("UNA'", 4);
        faulty("UNA+ABC'", 4);
        faulty("UNA+:", 5);
        for (char c : "AZaz09 ".toCharArray()) {
            faulty("UNA" + c, 3);
            faulty("UNA:" + c, 4);
            faulty("UNA:+." + c, c == ' ' ? 7 : 6);
            faulty("UNA:+.?" + c, c == ' ' ? 8 : 7);
            faulty("UNA:+.? " + c, 8);
            faulty("UNA:+.  " + c, 8);
        }
        for (char c : "!/:@[`{~".toCharArray()) {
            faulty("UNA" + c, 4);
            faulty("UNA;" + c, 5);
            faulty("UNA;+." + c, 7);
            faulty("UNA;+.? " + c, 9);
            faulty("UNA;+.?" + c, 7);
        }
        faulty("UNA::", 4);
        faulty("UNA:+.+", 6);
        faulty("UNA:+.:", 6);
        faulty("UNA:+.? :", 8);
        faulty("UNA:+.? +", 8);
        faulty("UNA:+.? ?", 8);
        faulty("UNA:+. ?", 7);
        faulty("UNA:+.?'", 7);
        faulty("UNA:+.? '", 9);
        faulty("UNA:+.? ''", 9);
        faulty("UNA:+.? 'AB", 11);
        faulty("UNA;+.? 'ABC+a:b", 16);
        faulty("UNA;+.! 'ABC+a!", 15);
        faulty("UNA;+.! 'ABC;", 12);
    }

    private static String times(String some, int n) {
        return some.repeat(n);
    }

    private static void limits() {
        unfit(times("ABC'", 40));
        faulty(times("ABC'", 40) + "D", 160);
        faulty(times("ABC'", 40) + "ABC'", 160);
        faulty(times("ABC'", 40) + " ", 160);
        fine("UNB+++R'UNH+M+1'" + times("ABC'", 36) + "UNT+38+M'UNZ+1+R'", 1);
        fine("UNB'" + times("UNH'UNT'", 19) + "UNZ'", 19);
        InterchangeDesk nine = fine("UNB'" + times("UNG'UNH'UNT'UNE'", 9) + "UNZ'", 9);
        Check.due("groups", nine.interchange(2), 9);
        Check.due("group 8", nine.group(8), 3);
        Check.due("message 8", nine.message(8, 3), 8);

        unfit("ABC" + times("+", 120) + "'");
        faulty("ABC" + times("+", 121) + "'", 123);
        unfit("ABC+" + times(":", 119) + "'");
        faulty("ABC+" + times(":", 120) + "'", 123);
        faulty("ABC+" + times(":", 119) + "+'", 123);
        faulty("ABC" + times("+", 120) + ":'", 123);
        faulty("ABC" + times("+", 120), 123);
        faulty("ABC" + times("+", 120) + "x:y", 124);
        unfit("ABC" + times("+", 120) + "x?:y?+'DEF'");
        faulty("ABC" + times("+", 120) + "'DEF+'", 127);
        faulty("ABC" + times("+:", 60) + "'DEF'GHI:", 131);

        // The text may be full and its beginning fine.
        faulty("ABC+" + times("x", 396), 400);
        unfit("ABC+" + times("x", 395) + "'");
    }

    private static void envelopes() {
        unfit("UNB'");
        unfit("UNZ'");
        unfit("UNB'UNZ'");
        unfit("UNZ'UNB'");
        unfit("UNB'UNB'");
        unfit("UNB'UNH'UNT'");
        unfit("UNH'UNT'UNZ'");
        unfit("ABC'UNH'UNT'UNZ'");
        unfit("UNB'UNH'UNT'ABC'");
        unfit("UNB'UNH'UNT'UNZ'ABC'");
        unfit("UNB'UNH'UNT'UNZ'UNZ'");
        unfit("UNB'ABC'UNH'UNT'UNZ'");
        unfit("UNB'UNH'UNT'ABC'UNZ'");
        unfit("UNB'UNH'UNT'ABC'UNH'UNT'UNZ'");
        unfit("UNB'UNH'UNZ'");
        unfit("UNB'UNH'UNH'UNT'UNZ'");
        unfit("UNB'UNH'UNT'UNT'UNZ'");
        unfit("UNB'UNH'UNH'UNT'UNT'UNZ'");
        unfit("UNB'UNH'UNZ'UNT'UNZ'");
        unfit("UNB'UNH'UNG'UNT'UNZ'");
        unfit("UNB'UNH'UNE'UNT'UNZ'");
        unfit("UNB'UNH'UNB'UNT'UNZ'");
        unfit("UNB'UNG'UNZ'");
        unfit("UNB'UNG'UNE'UNZ'");
        unfit("UNB'UNE'UNZ'");
        unfit("UNB'UNG'UNH'UNT'UNZ'");
        unfit("UNB'UNG'ABC'UNH'UNT'UNE'UNZ'");
        unfit("UNB'UNG'UNH'UNT'ABC'UNE'UNZ'");
        unfit("UNB'UNG'UNH'UNE'UNZ'");
        unfit("UNB'UNG'UNG'UNH'UNT'UNE'UNE'UNZ'");
        unfit("UNB'UNG'UNH'UNT'UNG'UNH'UNT'UNE'UNZ'");
        unfit("UNB'UNG'UNH'UNT'UNE'UNE'UNZ'");
        unfit("UNB'UNG'UNH'UNT'UNE'UNG'UNE'UNZ'");
        unfit("UNB'UNG'UNH'UNT'UNE'UNH'UNT'UNZ'");
        unfit("UNB'UNH'UNT'UNG'UNH'UNT'UNE'UNZ'");
        unfit("UNB'UNG'UNH'UNT'UNE'ABC'UNZ'");
        unfit("UNB'UNH'UNT'UNE'UNZ'");
        fine("UNB'UNH'UNT'UNZ'", 1);
        fine("UNB'UNH'ABC'UNT'UNH'UNT'UNZ'", 2);
        fine("UNB'UNG'UNH'UNT'UNE'UNZ'", 1);
        fine("UNB'UNG'UNH'UNT'UNH'ABC'UNT'UNE'UNG'UNH'UNT'UNE'UNZ'", 3);
    }

    private static void throwsChangeNothing() {
        InterchangeDesk desk = new InterchangeDesk();
        Check.table(desk, 1, "AAA!");
        Check.due("fault before a read", desk.fault(), -1);
        Check.due("read", Check.read(desk, ONE), 1);
        String report = Check.reportOf(desk);
        Check.due("report", report, "UCI+R+0'UCM+M+5+2'");
        Check.due("read", Check.read(desk, "UNB'UNH'UNT'UNZ'X"), Check.ARGUMENT);
        Check.due("fault", desk.fault(), 17);
        Check.due("read again", Check.answer(desk::read), Check.ARGUMENT);
        Check.due("fault", desk.fault(), 17);
        Check.due("length", desk.length(), 17);
        Check.due("report stays", Check.reportOf(desk), report);
        Check.due("print stays", Check.printOf(desk), ONE);
        Check.due("segments stay", desk.interchange(0), 4);
        Check.due("read", Check.read(desk, "ABC'DEF+x'"), Check.UNSUPPORTED);
        Check.due("fault", desk.fault(), -1);
        Check.due("length", desk.length(), 10);
        Check.due("report stays", Check.reportOf(desk), report);
        Check.due("print stays", Check.printOf(desk), ONE);
        Check.due("tag stays", desk.segment(1, -2, 0, 0), Check.tag("UNH"));
        Check.due("message stays", Check.verdict(desk, 0), "5 at 2");
        Check.due("code stays", desk.interchange(3), 0);
        // A text that was not fine can be typed on.
        desk.wipe();
        Check.type(desk, ONE.substring(0, 20));
        Check.due("read", Check.answer(desk::read), Check.ARGUMENT);
        Check.due("fault", desk.fault(), 20);
        Check.type(desk, ONE.substring(20));
        Check.due("fault is of the latest read", desk.fault(), 20);
        Check.due("read", desk.read(), 1);
        Check.due("fault", desk.fault(), -1);
        Check.due("the text is empty", Check.answer(desk::read), Check.ARGUMENT);
        Check.due("fault", desk.fault(), 0);
    }

    private static void manyReads() {
        InterchangeDesk desk = new InterchangeDesk();
        for (int k = 0; k < 8; k++) {
            String grouped = "UNB+++" + times(k + "", 300) + "'UNG+G'UNH'UNT'UNE+1+G'UNG'UNH'UNT'UNE'UNZ+2'";
            Check.due("read", Check.read(desk, grouped), 2);
            Check.due("groups", desk.interchange(2), 2);
            Check.due("group 0", desk.group(0), 0);
            Check.due("group 1", desk.group(1), 3);
            Check.due("its group", desk.message(1, 3), 1);
            Check.due("a character", desk.segment(0, 2, 0, 299), '0' + k);
            Check.due("how many", desk.segment(0, 2, 0, -1), 300);
            String flat = "UNB+++" + times("::" + k, 40) + "'UNH'UNT'UNZ'";
            Check.due("read", Check.read(desk, flat), 1);
            Check.due("groups", desk.interchange(2), 0);
            Check.due("group 0", desk.group(0), -1);
            Check.due("its group", desk.message(0, 3), -1);
            Check.due("message 1", desk.message(1, 0), -1);
            Check.due("components", desk.segment(0, 2, -1, 0), 81);
            Check.due("segment 4", desk.segment(4, -2, 0, 0), -1);
        }
    }

    private static void tablesAsTheyAre() {
        InterchangeDesk desk = new InterchangeDesk();
        Check.due("read", Check.read(desk, ONE), 1);
        Check.due("no table", Check.verdict(desk, 0), "3 at 1");
        Check.table(desk, 1, "AAA");
        Check.due("the table then", Check.verdict(desk, 0), "3 at 1");
        Check.due("read", Check.read(desk, ONE), 1);
        Check.due("the table now", Check.verdict(desk, 0), "0 at -1");
        Check.due("clear", desk.clear(1), true);
        Check.due("the table then", Check.verdict(desk, 0), "0 at -1");
        Check.due("read", Check.read(desk, ONE), 1);
        Check.due("no table", Check.verdict(desk, 0), "3 at 1");
    }
}
