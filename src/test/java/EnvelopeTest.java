import java.util.regex.Pattern;

/** Of the terms: ENVELOPES, the references, COUNTS and NUMBERS in them, and when they are RIGHT. */
public final class EnvelopeTest {
    private static final String LETTERS = "BZGEHT.";
    private static final String[] TAGS = {"UNB'", "UNZ'", "UNG'", "UNE'", "UNH'", "UNT'", "ABC'"};
    private static final Pattern SHAPE = Pattern.compile("B((H\\.*T)+|(G(H\\.*T)+E)+)Z");

    public static void main(String[] args) {
        allShortShapes();
        oneTagMoreOrLess();
        firstAndLast();
        atLeastOne();
        messagesOrElseGroups();
        nowhereElse();
        asManyAsCanBe();
        placesOfReferences();
        sameReferences();
        emptyReferences();
        placesOfCounts();
        whatIsCounted();
        numbers();
        codesOfGroups();
        codesOfInterchanges();
        Check.end();
    }

    private static Desk desk = new Desk();
    private static int shapes = 0;

    /** Each letter of a shape is the last one of an envelope's tag, a dot is any other segment. */
    private static void shape(String shape) {
        // A desk is good for 512 calls only.
        if (shapes % 20 == 0) {
            desk = new Desk();
        }
        shapes++;
        StringBuilder text = new StringBuilder();
        for (char c : shape.toCharArray()) {
            text.append(TAGS[LETTERS.indexOf(c)]);
        }
        desk.wipe();
        for (int from = 0; from < text.length(); from += 8) {
            desk.type(Check.part(text.substring(from, Math.min(text.length(), from + 8))));
        }
        Object want = SHAPE.matcher(shape).matches() ? shape.replaceAll("[^H]", "").length() : Check.UNSUPPORTED;
        Check.due("read " + text, Check.answer(desk::read), want);
        if (want instanceof Integer) {
            Check.due("groups of " + text, desk.interchange(2), shape.replaceAll("[^G]", "").length());
        }
    }

    private static void allOf(String begun, int more) {
        if (!begun.isEmpty()) {
            shape(begun);
        }
        for (int k = 0; k < LETTERS.length() && more > 0; k++) {
            allOf(begun + LETTERS.charAt(k), more - 1);
        }
    }

    private static void allShortShapes() {
        allOf("", 6);
    }

    private static void oneTagMoreOrLess() {
        for (String good : new String[] {"BHTHTZ", "BH..THTH.TZ", "BGHTEGHTHTEZ", "BGH.THT.TEGHTEGH..TEZ"}) {
            for (int at = 0; at <= good.length(); at++) {
                for (char c : LETTERS.toCharArray()) {
                    shape(good.substring(0, at) + c + good.substring(at));
                    if (at < good.length()) {
                        shape(good.substring(0, at) + c + good.substring(at + 1));
                    }
                }
                if (at < good.length()) {
                    shape(good.substring(0, at) + good.substring(at + 1));
                }
            }
        }
    }

    /** "The first segment is UNB, the last one UNZ." */
    private static void firstAndLast() {
        Check.fine("UNB'UNH'UNT'UNZ'", 1);
        Check.unfit("UNB'");
        Check.unfit("UNZ'");
        Check.unfit("UNZ'UNB'");
        Check.unfit("UNB'UNB'");
        Check.unfit("UNB'UNH'UNT'");
        Check.unfit("UNH'UNT'UNZ'");
        Check.unfit("ABC'UNH'UNT'UNZ'");
        Check.unfit("UNB'UNH'UNT'ABC'");
        Check.unfit("ABC'UNB'UNH'UNT'UNZ'");
        Check.unfit("UNB'UNH'UNT'UNZ'ABC'");
        Check.unfit("UNB'UNH'UNT'UNZ'UNZ'");
    }

    /** "at least one"; "a group is UNG, at least one message, UNE" */
    private static void atLeastOne() {
        Check.unfit("UNB'UNZ'");
        Check.unfit("UNB'ABC'UNZ'");
        Check.unfit("UNB'UNG'UNE'UNZ'");
        Check.unfit("UNB'UNG'ABC'UNE'UNZ'");
        Check.unfit("UNB'UNG'UNH'UNT'UNE'UNG'UNE'UNZ'");
        Check.unfit("UNB'UNG'UNE'UNG'UNH'UNT'UNE'UNZ'");
        Check.fine("UNB'UNG'UNH'UNT'UNE'UNZ'", 1);
        Check.fine("UNB'UNH'UNT'UNZ'", 1);
    }

    /** "Between them stand MESSAGES, or else GROUPS" */
    private static void messagesOrElseGroups() {
        Check.unfit("UNB'UNG'UNH'UNT'UNE'UNH'UNT'UNZ'");
        Check.unfit("UNB'UNH'UNT'UNG'UNH'UNT'UNE'UNZ'");
        Check.unfit("UNB'UNG'UNH'UNT'UNE'ABC'UNZ'");
        Check.unfit("UNB'UNG'UNG'UNH'UNT'UNE'UNE'UNZ'");
        Check.fine("UNB'UNH'ABC'UNT'UNH'UNT'UNZ'", 2);
        Check.fine("UNB'UNG'UNH'UNT'UNH'ABC'UNT'UNE'UNG'UNH'UNT'UNE'UNZ'", 3);
    }

    /** "None of these six tags stands anywhere else." */
    private static void nowhereElse() {
        for (String tag : new String[] {"UNB'", "UNZ'", "UNG'", "UNE'", "UNH'", "UNT'"}) {
            Check.unfit("UNB'UNH'" + tag + "UNT'UNZ'");
            Check.unfit("UNB'UNH'ABC'" + tag + "ABC'UNT'UNZ'");
            Check.unfit("UNB'UNG'UNH'" + tag + "UNT'UNE'UNZ'");
            Check.unfit("UNB'" + tag + "UNH'UNT'UNZ'");
            Check.unfit("UNB'UNH'UNT'" + tag + "UNZ'");
        }
        // Those that are near to them are any segments.
        Check.fine("UNB'UNH'UNA'UNC'UND'UNF'UNI'UNS'UNU'UNY'VNB'UOB'UNT'UNZ'", 1);
    }

    private static void asManyAsCanBe() {
        Desk flat = Check.fine("UNB'" + "UNH'UNT'".repeat(19) + "UNZ'", 19);
        Check.due("messages", flat.interchange(1), 19);
        Check.due("message 18", Check.verdict(flat, 18), "1 at 38");
        Check.due("message 19", flat.message(19, 0), -1);
        Desk groups = Check.fine("UNB'" + "UNG'UNH'UNT'UNE'".repeat(9) + "UNZ'", 9);
        Check.due("groups", groups.interchange(2), 9);
        Check.due("group 8", groups.group(8), 3);
        Check.due("group 9", groups.group(9), -1);
        Check.due("message 8", groups.message(8, 3), 8);
        Desk one = Check.fine("UNB'UNG'" + "UNH'UNT'".repeat(18) + "UNE+18'UNZ+1'", 18);
        Check.due("group 0", one.group(0), 1);
        Check.due("message 17", one.message(17, 3), 0);
    }

    /** The CODES of the interchange, of group 0 and of message 0. */
    private static void codes(String text, String want) {
        Desk read = new Desk();
        Check.table(read, 1, "ABC99");
        Check.due("read " + text, Check.read(read, text), 1);
        Check.due("codes of " + text, read.interchange(3) + " " + read.group(0) + " " + read.message(0, 0), want);
    }

    /** "UNB has its REFERENCE in element 2, UNG and UNH in element 0, UNZ, UNE and UNT in element 1" */
    private static void placesOfReferences() {
        codes("UNB+a+b+R'UNG+G'UNH+M+1'UNT+2+M'UNE+1+G'UNZ+1+R'", "0 0 0");
        codes("UNB+R+R'UNG+x+G'UNH+x+M+1'UNT+2+M'UNE+1+G'UNZ+1+R'", "1 1 1");
        codes("UNB++++R'UNG++G'UNH++M+1'UNT+2+M'UNE+1+G'UNZ+1+R'", "1 1 1");
        codes("UNB+++R'UNG+G'UNH+M+1'UNT+2++M'UNE+1++G'UNZ+1++R'", "1 1 1");
        codes("UNB+++1'UNG+1'UNH+2+1'UNT+2'UNE+1'UNZ+1'", "1 1 1");
        // "of an element component 0 is meant"
        codes("UNB+++R:x'UNG+G:x'UNH+M:x+1:x'UNT+2:x+M:y'UNE+1:x+G:y'UNZ+1:x+R:y'", "0 0 0");
        codes("UNB+++:R'UNG+:G'UNH+:M+1'UNT+2+:M'UNE+1+:G'UNZ+1+:R'", "1 1 1");
        codes("UNB+++R'UNG+G'UNH+M+1'UNT+2+x:M'UNE+1+x:G'UNZ+1+x:R'", "1 1 1");
    }

    /** "RIGHT if it is not empty and the same as that of its beginning" */
    private static void sameReferences() {
        String[][] others = {
            {"Ref", "ref"}, {"Ref", "Re"}, {"Re", "Ref"}, {"Ref", "Ref "}, {"Ref", " Ref"}, {"Ref", "Rex"},
            {"Ref", "Xef"}, {"1", "01"}, {"0", ""}, {"", "0"}, {"Ref", "?+Ref"}, {"a?:b", "a:b"}, {"??", "?:"}};
        for (String[] pair : others) {
            String one = pair[0];
            String two = pair[1];
            codes("UNB+++" + one + "'UNG+" + one + "'UNH+" + one + "+1'UNT+2+" + two
                    + "'UNE+1+" + two + "'UNZ+1+" + two + "'", "1 1 1");
        }
        for (String one : new String[] {"0", " ", "?'", "????", "a?:b", "x".repeat(40)}) {
            codes("UNB+++" + one + "'UNG+" + one + "'UNH+" + one + "+1'UNT+2+" + one
                    + "'UNE+1+" + one + "'UNZ+1+" + one + "'", "0 0 0");
        }
        // What was released is the same as what was not.
        codes("UNB+++?R'UNG+?G'UNH+?M+?1'UNT+?2+M'UNE+?1+G'UNZ+?1+R'", "0 0 0");
    }

    /** "one that is not there is as an empty one", and an empty one is not RIGHT. */
    private static void emptyReferences() {
        codes("UNB+++'UNG+'UNH++1'UNT+2+'UNE+1+'UNZ+1+'", "1 1 1");
        codes("UNB++'UNG'UNH'UNT+2'UNE+1'UNZ+1'", "1 1 1");
        codes("UNB'UNG'UNH'UNT'UNE'UNZ'", "3 3 1");
        codes("UNB'UNG'UNH'UNT+2+M'UNE+1+G'UNZ+1+R'", "1 1 1");
        codes("UNB+++R'UNG+G'UNH+M+1'UNT+2'UNE+1'UNZ+1'", "1 1 1");
        codes("UNB+++'UNG+'UNH++1'UNT'UNE'UNZ'", "3 3 1");
    }

    /** "UNH has its TYPE in element 1; UNZ, UNE and UNT have a COUNT in element 0." */
    private static void placesOfCounts() {
        codes("UNB+++R'UNG+G'UNH+M+1'UNT++M+2'UNE++G+1'UNZ++R+1'", "2 2 2");
        codes("UNB+++R'UNG+G'UNH+M+1'UNT+:2+M'UNE+:1+G'UNZ+:1+R'", "2 2 2");
        codes("UNB+++2'UNG+2'UNH+3+1'UNT+3+3'UNE+2+2'UNZ+2+2'", "2 2 2");
        codes("UNB+++R'UNG+G'UNH+M++1'UNT+2+M'UNE+1+G'UNZ+1+R'", "0 0 3");
        codes("UNB+++R'UNG+G'UNH+M+:1'UNT+2+M'UNE+1+G'UNZ+1+R'", "0 0 3");
        codes("UNB+++R'UNG+G'UNH+M'UNT+2+M'UNE+1+G'UNZ+1+R'", "0 0 3");
    }

    /** "UNT counts the segments of its message, with UNH and UNT; UNE the messages of its group; .." */
    private static void whatIsCounted() {
        for (int n = 0; n <= 12; n++) {
            for (int off = -2; off <= 2; off++) {
                codes("UNB+++R'UNH+M+1'" + "ABC'".repeat(n) + "UNT+" + (n + 2 + off) + "+M'UNZ+1+R'",
                        "0 -1 " + (off == 0 ? 0 : 2));
            }
        }
        for (int n = 1; n <= 12; n++) {
            for (int off = -1; off <= 1; off++) {
                Desk flat = Check.having("UNB+++R'" + "UNH'UNT'".repeat(n) + "UNZ+" + (n + off) + "+R'", n);
                Check.due("messages", flat.interchange(3), off == 0 ? 0 : 2);
                Desk group = Check.having("UNB+++R'UNG+G'" + "UNH'UNT'".repeat(n) + "UNE+" + (n + off)
                        + "+G'UNZ+1+R'", n);
                Check.due("messages of a group", group.group(0), off == 0 ? 0 : 2);
                Check.due("one group", group.interchange(3), 0);
            }
        }
        for (int n = 1; n <= 9; n++) {
            for (int off = -1; off <= 1; off++) {
                Desk groups = Check.having("UNB+++R'" + "UNG+G'UNH'UNT'UNE+1+G'".repeat(n) + "UNZ+" + (n + off)
                        + "+R'", n);
                Check.due("groups", groups.interchange(3), off == 0 ? 0 : 2);
                Check.due("each has one message", groups.group(n - 1), 0);
            }
        }
        // Where there are groups, UNZ does not count the messages.
        Desk both = Check.having("UNB+++R'UNG+G'UNH'UNT'UNH'UNT'UNE+2+G'UNZ+2+R'", 2);
        Check.due("two messages in one group", both.interchange(3), 2);
        // Each group counts its own alone.
        Desk apart = Check.having("UNB+++R'UNG+G'UNH'UNT'UNH'UNT'UNE+2+G'UNG+H'UNH'UNT'UNE+3+H'"
                + "UNG+I'UNH'UNT'UNE+1+I'UNZ+3+R'", 4);
        Check.due("group 0", apart.group(0), 0);
        Check.due("group 1", apart.group(1), 2);
        Check.due("group 2", apart.group(2), 0);
    }

    /** The COUNT stands in all three ends, where as many are due. */
    private static void count(String count, int due, boolean right) {
        int code = right ? 0 : 2;
        Desk message = new Desk();
        Check.table(message, 1, "ABC99");
        Check.due("read", Check.read(message, "UNB+++R'UNH+M+1'" + "ABC'".repeat(due - 2) + "UNT+" + count
                + "+M'UNZ+1+R'"), 1);
        Check.due("UNT+" + count, message.message(0, 0), code);
        if (due <= 18) {
            Desk group = Check.having("UNB+++R'UNG+G'" + "UNH'UNT'".repeat(due) + "UNE+" + count + "+G'UNZ+1+R'", due);
            Check.due("UNE+" + count, group.group(0), code);
            Desk whole = Check.having("UNB+++R'" + "UNH'UNT'".repeat(due) + "UNZ+" + count + "+R'", due);
            Check.due("UNZ+" + count, whole.interchange(3), code);
        }
    }

    /** "NUMBERS are one to three digits without a 0 at their front (0 is one 0)." */
    private static void numbers() {
        count("2", 2, true);
        for (String wrong : new String[] {
            "", "0", "00", "000", "1", "3", "02", "002", "0002", "20", "200", "2 ", " 2", "?+2", "-2", "2x", "x2",
            "2.", "22", "222", "102", "258", "514", "1002", "2000", "65538", "4294967298", "x", "B", " ", "?:2"}) {
            count(wrong, 2, false);
        }
        count("10", 10, true);
        for (String wrong : new String[] {"1", "0", "010", "0010", "100", "1O", "01", "11", "9", "1?:", "?:0", "266"}) {
            count(wrong, 10, false);
        }
        count("18", 18, true);
        count("9", 9, true);
        // The characters next to the digits would do as digits with other worths.
        count("2/", 19, false);
        count("1/", 9, false);
        count("?:", 10, false);
        count("1?:", 20, false);
        count("19", 19, true);
        count("20", 20, true);
        count("38", 38, true);
        count("038", 38, false);
        count("380", 38, false);
        // One behind the last count that there can be.
        Desk none = Check.having("UNB+++R'UNG+G'UNH'UNT'UNE+0+G'UNZ+0+R'", 1);
        Check.due("0 is a number, but not that many", none.interchange(3) + " " + none.group(0), "2 2");
    }

    /** "The CODE of a group .. is 1 if its end's reference is not RIGHT, + 2 if its COUNT is not." */
    private static void codesOfGroups() {
        Desk read = Check.having("UNB+++R'UNG+G'UNH'UNT'UNH'UNT'UNE+2+G'"
                + "UNG+G'UNH'UNT'UNE+1+H'UNG+G'UNH'UNT'UNE+2+G'UNG'UNH'UNT'UNE+0'"
                + "UNG'UNH'UNT'UNE+1+'UNZ+5+R'", 6);
        int[] due = {0, 1, 2, 3, 1};
        for (int g = 0; g < due.length; g++) {
            Check.due("group " + g, read.group(g), due[g]);
        }
        Check.due("behind the last one", read.group(5), -1);
        Check.due("interchange", read.interchange(3), 0);
        Desk none = Check.having("UNB'UNH'UNT'UNZ'", 1);
        Check.due("no groups", none.group(0), -1);
    }

    private static void whole(String unb, String unz, int code) {
        Desk flat = Check.having(unb + "'UNH'UNT'UNH'UNT'" + unz + "'", 2);
        Check.due(unb + " " + unz, flat.interchange(3), code);
        Desk grouped = Check.having(unb + "'UNG'UNH'UNT'UNE'UNG'UNH'UNT'UNH'UNT'UNE'" + unz + "'", 3);
        Check.due("grouped " + unb + " " + unz, grouped.interchange(3), code);
    }

    /** "The CODE .. of the interchange is 1 if its end's reference is not RIGHT, + 2 if its COUNT is not." */
    private static void codesOfInterchanges() {
        whole("UNB+a+b+R", "UNZ+2+R", 0);
        whole("UNB+++R", "UNZ+2+S", 1);
        whole("UNB+++R", "UNZ+2", 1);
        whole("UNB", "UNZ+2", 1);
        whole("UNB+++", "UNZ+2+", 1);
        whole("UNB+++R", "UNZ+3+R", 2);
        whole("UNB+++R", "UNZ+1+R", 2);
        whole("UNB+++R", "UNZ+02+R", 2);
        whole("UNB+++R", "UNZ++R", 2);
        whole("UNB+++R", "UNZ+1+S", 3);
        whole("UNB", "UNZ", 3);
    }
}
