/** Promises 9 and 10: read and fault. */
public final class ReadTest {
    private static final String ONE = "UNB+++R'UNH+M+1'UNT+2+M'UNZ+1+R'";

    public static void main(String[] args) {
        howManyMessages();
        textIsEmptyThen();
        notSegments();
        notInEnvelopes();
        segmentsComeFirst();
        refusedReadKeepsTheText();
        refusedReadKeepsTheInterchange();
        newInterchangeForTheOld();
        nothingOfTheOnesBefore();
        tablesAsTheyAre();
        faultOfTheLatestRead();
        faultOfNoRead();
        faultIsTheMost();
        Check.end();
    }

    /** "how many messages it has" */
    private static void howManyMessages() {
        for (int n = 1; n <= 19; n++) {
            Check.fine("UNB'" + "UNH'UNT'".repeat(n) + "UNZ'", n);
        }
        for (int n = 1; n <= 18; n++) {
            Check.fine("UNB'UNG'" + "UNH'UNT'".repeat(n) + "UNE'UNZ'", n);
        }
        Check.fine("UNB'UNG'UNH'UNT'UNH'ABC'UNT'UNE'UNG'UNH'UNT'UNE'UNZ'", 3);
    }

    /** "The text is read as an interchange, and is empty then" */
    private static void textIsEmptyThen() {
        Desk desk = new Desk();
        Check.type(desk, ONE);
        Check.due("read", desk.read(), 1);
        Check.due("length", desk.length(), 0);
        Check.due("read again", Check.answer(desk::read), Check.ARGUMENT);
        Check.due("fault", desk.fault(), 0);
        Check.type(desk, ONE);
        Check.due("length", desk.length(), ONE.length());
        Check.due("read", desk.read(), 1);
        Check.due("print", Check.printOf(desk), ONE);
        // A text that was full leaves room for a full one.
        Desk full = new Desk();
        String head = "UNB+++R'UNH+M+1'UNT+2+M'UNZ+1+R+";
        Check.type(full, head + "x".repeat(399 - head.length()) + "'");
        Check.due("read", full.read(), 1);
        Check.due("length", full.length(), 0);
        Check.type(full, "y".repeat(400));
        Check.due("length", full.length(), 400);
    }

    /** "IllegalArgumentException if it is not segments as said" */
    private static void notSegments() {
        for (String text : new String[] {
            "", " ", "A", "ABC", "abc'", "ABC'D", "ABC+", "ABC+?'", "ABC:'", "ABC''",
            "UNA", "UNA:+.? '", "UNAxxxxxx"}) {
            Desk desk = new Desk();
            Check.due("read " + text, Check.read(desk, text), Check.ARGUMENT);
        }
    }

    /** "UnsupportedOperationException if it is, but their envelopes are not as said" */
    private static void notInEnvelopes() {
        for (String text : new String[] {"ABC'", "UNB'", "UNB'UNZ'", "UNB'UNH'UNZ'", "UNH'UNT'", "UNA:+.? 'ABC'"}) {
            Desk desk = new Desk();
            Check.due("read " + text, Check.read(desk, text), Check.UNSUPPORTED);
        }
    }

    private static void segmentsComeFirst() {
        // Neither the segments nor the envelopes are as said.
        Check.faulty("UNZ'UNB", 7);
        Check.faulty("ABC'ABC' ", 8);
        Check.faulty("UNZ'".repeat(41), 160);
        Check.faulty("UNZ" + "+".repeat(121) + "'", 123);
        // The envelopes are, but the segments are not.
        Check.faulty("UNB'UNH'UNT'UNZ' ", 16);
    }

    private static void refusedReadKeepsTheText() {
        Desk desk = new Desk();
        Check.type(desk, ONE.substring(0, 21));
        Check.due("read", Check.answer(desk::read), Check.ARGUMENT);
        Check.due("read again", Check.answer(desk::read), Check.ARGUMENT);
        Check.due("length", desk.length(), 21);
        Check.type(desk, ONE.substring(21, 24));
        Check.due("read", Check.answer(desk::read), Check.UNSUPPORTED);
        Check.due("read again", Check.answer(desk::read), Check.UNSUPPORTED);
        Check.due("length", desk.length(), 24);
        Check.type(desk, ONE.substring(24));
        Check.due("read", desk.read(), 1);
        Check.due("print", Check.printOf(desk), ONE);
    }

    private static void refusedReadKeepsTheInterchange() {
        Desk desk = new Desk();
        Check.table(desk, 1, "AAA!");
        Check.due("read", Check.read(desk, ONE), 1);
        String report = "UCI+R+0'UCM+M+5+2'";
        for (String text : new String[] {"UNB'UNG+x:y'UNH'UNT'UNH'UNT'UNE'UNZ'X", "UNB'UNG'UNH+9'UNT'UNH'UNT'UNE'ABC'",
            "", "UNA*!.?", "UNB'UNG'UNH'UNT'UNE'UNZ"}) {
            Check.due("read refused", Check.read(desk, text).startsWith("throws."), true);
            Check.due("report stays", Check.reportOf(desk), report);
            Check.due("print stays", Check.printOf(desk), ONE);
            Check.due("segments stay", desk.interchange(0), 4);
            Check.due("messages stay", desk.interchange(1), 1);
            Check.due("groups stay", desk.interchange(2), 0);
            Check.due("code stays", desk.interchange(3), 0);
            Check.due("message stays", Check.verdict(desk, 0), "5 at 2");
            Check.due("tag stays", desk.segment(1, -2, 0, 0), Check.tag("UNH"));
            Check.due("element stays", desk.segment(1, 0, 0, 0), (int) 'M');
        }
    }

    private static void newInterchangeForTheOld() {
        for (int k = 0; k < 8; k++) {
            Desk desk = new Desk();
            String grouped = "UNB+++" + String.valueOf(k).repeat(300)
                    + "'UNG+G'UNH'UNT'UNE+1+G'UNG'UNH'UNT'UNE'UNZ+2'";
            Check.due("read", Check.read(desk, grouped), 2);
            Check.due("groups", desk.interchange(2), 2);
            Check.due("group 0", desk.group(0), 0);
            Check.due("group 1", desk.group(1), 3);
            Check.due("its group", desk.message(1, 3), 1);
            Check.due("a character", desk.segment(0, 2, 0, 299), '0' + k);
            Check.due("how many", desk.segment(0, 2, 0, -1), 300);
            String flat = "UNB+++" + ("::" + k).repeat(40) + "'UNH'UNT'UNZ'";
            Check.due("read", Check.read(desk, flat), 1);
            Check.due("groups", desk.interchange(2), 0);
            Check.due("group 0", desk.group(0), -1);
            Check.due("its group", desk.message(0, 3), -1);
            Check.due("message 1", desk.message(1, 0), -1);
            Check.due("components", desk.segment(0, 2, -1, 0), 81);
            Check.due("segment 4", desk.segment(4, -2, 0, 0), -1);
            Check.due("read", Check.read(desk, grouped), 2);
            Check.due("group 1", desk.group(1), 3);
        }
    }

    private static final String[] MANY = {
        "UNB+++R'UNH+M+1'UNT+2+M'UNZ+1+R'",
        "UNB'UNG+G'UNH'UNT'UNH+A+1'ABC'UNT+3+A'UNE+2+G'UNG'UNH'UNT'UNE'UNZ+2'",
        "UNA!$.# %UNB$$$#!%UNG%UNH$A$1%ABC$x!!y$%ABC%UNT$4$A%UNE$1%UNZ$1$#!%",
        "UNB+++Q'UNH+B+1'DEF+++::z'UNT+3+B'UNH+B+1'UNT+2+B'UNH+C+2'UNT+2+C'UNZ+3+Q'",
        "UNB'UNG+G'UNH'UNT'UNE'UNG'UNH'UNT'UNE+1'UNG+I'UNH'UNT'UNE+1+I'UNZ+3'",
        "UNB",
        "UNB+x:y'UNG+a'UNH+b+1'UNT+c'UNE'UNH'"};

    private static String seen(Desk desk) {
        StringBuilder all = new StringBuilder();
        for (int k = 0; k < 4; k++) {
            all.append(desk.interchange(k)).append(' ').append(desk.group(k)).append(' ');
            for (int m = 0; m < 4; m++) {
                all.append(desk.message(m, k)).append(' ');
            }
        }
        for (int s = 0; s < 16; s++) {
            all.append(desk.segment(s, -2, 0, 0)).append(' ').append(desk.segment(s, -1, 0, 0)).append(' ');
            all.append(desk.segment(s, 0, 0, 0)).append(' ').append(desk.segment(s, 0, -1, 0)).append(' ');
        }
        return all + Check.printOf(desk) + " " + Check.reportOf(desk);
    }

    /** Three reads of any, then one: it is as if it had been read alone. */
    private static void nothingOfTheOnesBefore() {
        for (int k = 0; k < MANY.length * MANY.length * MANY.length * MANY.length; k++) {
            String last = MANY[k % MANY.length];
            if (last.equals("UNB") || last.endsWith("UNH'")) {
                continue;
            }
            Desk desk = new Desk();
            Desk alone = new Desk();
            Check.table(desk, 1, "ABC2");
            Check.table(alone, 1, "ABC2");
            for (int before = k / MANY.length; before > 0; before /= MANY.length) {
                Check.read(desk, MANY[before % MANY.length]);
            }
            Check.due("read", Check.read(desk, last), Check.read(alone, last));
            Check.due(last + " behind " + k, seen(desk), seen(alone));
            Check.due("fault", desk.fault(), -1);
        }
    }

    /** "its messages are matched by the tables as they are now" */
    private static void tablesAsTheyAre() {
        Desk desk = new Desk();
        Check.due("read", Check.read(desk, ONE), 1);
        Check.due("no table", Check.verdict(desk, 0), "3 at 1");
        Check.table(desk, 1, "AAA");
        Check.due("the table then", Check.verdict(desk, 0), "3 at 1");
        Check.due("the report then", Check.reportOf(desk), "UCI+R+0'UCM+M+3+1'");
        Check.due("read", Check.read(desk, ONE), 1);
        Check.due("the table now", Check.verdict(desk, 0), "0 at -1");
        Check.due("clear", desk.clear(1), true);
        Check.due("the table then", Check.verdict(desk, 0), "0 at -1");
        Check.due("read", Check.read(desk, ONE), 1);
        Check.due("no table", Check.verdict(desk, 0), "3 at 1");
    }

    /** "Of the latest read, if it threw IllegalArgumentException" */
    private static void faultOfTheLatestRead() {
        Desk desk = new Desk();
        Check.due("read", Check.read(desk, "ABC' "), Check.ARGUMENT);
        Check.due("fault", desk.fault(), 4);
        Check.due("fault again", desk.fault(), 4);
        Check.due("read", Check.read(desk, "a"), Check.ARGUMENT);
        Check.due("fault", desk.fault(), 0);
        Check.due("read", Check.read(desk, "ABC+x"), Check.ARGUMENT);
        // Neither the text nor the tables nor other refused calls change it.
        Check.type(desk, "'");
        Check.due("fault behind type", desk.fault(), 5);
        Check.due("type", desk.type(1), false);
        desk.wipe();
        Check.due("fault behind wipe", desk.fault(), 5);
        Check.table(desk, 1, "AAA (2 BBB! )");
        Check.due("clear", desk.clear(1), true);
        Check.due("slot", Check.answer(() -> desk.slot(9, 0, true, 0)), Check.ARGUMENT);
        Check.due("print", Check.answer(() -> desk.print(0)), Check.STATE);
        Check.due("fault", desk.fault(), 5);
        // A shorter one behind a longer one, and a longer one behind a shorter one.
        Check.due("read", Check.read(desk, "A"), Check.ARGUMENT);
        Check.due("fault", desk.fault(), 1);
        Check.due("read", Check.read(desk, "ABC+xxxxxxxx"), Check.ARGUMENT);
        Check.due("fault", desk.fault(), 12);
    }

    /** "NONE if it did not throw that, or there was none." */
    private static void faultOfNoRead() {
        Desk desk = new Desk();
        Check.due("no read yet", desk.fault(), -1);
        Check.due("slot", Check.answer(() -> desk.slot(9, 0, true, 0)), Check.ARGUMENT);
        Check.due("no read yet", desk.fault(), -1);
        Check.due("read", Check.read(desk, "ABC"), Check.ARGUMENT);
        Check.due("fault", desk.fault(), 3);
        Check.due("read", Check.read(desk, "ABC'"), Check.UNSUPPORTED);
        Check.due("it threw another", desk.fault(), -1);
        Check.due("read", Check.read(desk, "ABC"), Check.ARGUMENT);
        Check.due("fault", desk.fault(), 3);
        Check.due("read", Check.read(desk, ONE), 1);
        Check.due("it did not throw", desk.fault(), -1);
        Check.due("read", Check.answer(desk::read), Check.ARGUMENT);
        Check.due("fault", desk.fault(), 0);
        Check.due("read", Check.read(desk, ONE), 1);
        Check.due("it did not throw", desk.fault(), -1);
    }

    /** "the most from its beginning that could be the beginning of a text as said (of any length)" */
    private static void faultIsTheMost() {
        // Each beginning of a text as said is fine to its end, but for whole segments, which are one.
        String text = "UNA*!.% #UNB!!!R%##ABC!a*b%%*%!!#UNZ#";
        for (int n = 0; n < text.length(); n++) {
            String some = text.substring(0, n);
            if (n > 9 && some.endsWith("#") && !some.endsWith("%#")) {
                Check.unfit(some);
            } else {
                Check.faulty(some, n);
            }
        }
        // What could be made fine behind 400 characters is fine.
        Check.faulty("ABC+" + "x".repeat(396), 400);
        Check.faulty("ABC'".repeat(39) + "ABC+" + "x".repeat(400 - 160), 400);
        // A first line that is not one is no segment either.
        Check.faulty("UNA", 3);
        Check.faulty("UNAA", 3);
        Check.faulty("UNA+x", 4);
        Check.faulty("UNA'ABC'", 4);
    }
}
