/** Promises 11 to 14: interchange, message, group, segment. */
public final class LookTest {
    private static final int[] FAR = {-3, -2, -1, 99, 256, 400, 65536, Integer.MIN_VALUE, Integer.MAX_VALUE};

    public static void main(String[] args) {
        noInterchange();
        noInterchangeBehindRefusedReads();
        interchanges();
        anyOtherWhich();
        messages();
        noSuchMessage();
        noGroupsForMessages();
        groups();
        tags();
        elements();
        components();
        characters();
        noSuchSegment();
        noSuchElement();
        noSuchComponent();
        noSuchCharacter();
        Check.end();
    }

    private static void allThrow(Desk desk) {
        for (int i : new int[] {-3, -2, -1, 0, 1, 3, 4, Integer.MIN_VALUE, Integer.MAX_VALUE}) {
            Check.due("interchange " + i, Check.answer(() -> desk.interchange(i)), Check.STATE);
            Check.due("message " + i, Check.answer(() -> desk.message(i, 0)), Check.STATE);
            Check.due("message 0 " + i, Check.answer(() -> desk.message(0, i)), Check.STATE);
            Check.due("group " + i, Check.answer(() -> desk.group(i)), Check.STATE);
            Check.due("segment " + i, Check.answer(() -> desk.segment(i, 0, 0, 0)), Check.STATE);
            Check.due("segment 0 " + i, Check.answer(() -> desk.segment(0, i, 0, 0)), Check.STATE);
            Check.due("segment 0 0 " + i, Check.answer(() -> desk.segment(0, 0, i, 0)), Check.STATE);
            Check.due("segment 0 0 0 " + i, Check.answer(() -> desk.segment(0, 0, 0, i)), Check.STATE);
            Check.due("print " + i, Check.answer(() -> desk.print(i)), Check.STATE);
            Check.due("report " + i, Check.answer(() -> desk.report(i)), Check.STATE);
        }
    }

    /** "IllegalStateException if there is no interchange." */
    private static void noInterchange() {
        allThrow(new Desk());
        Desk typed = new Desk();
        Check.type(typed, "UNB'UNH'UNT'UNZ'");
        allThrow(typed);
        Check.due("read", typed.read(), 1);
        Check.due("interchange", typed.interchange(1), 1);
    }

    private static void noInterchangeBehindRefusedReads() {
        Desk desk = new Desk();
        Check.due("read", Check.read(desk, "UNB'UNH'UNT'UNZ' "), Check.ARGUMENT);
        allThrow(desk);
        Check.due("read", Check.read(desk, "UNB'UNH'UNT'"), Check.UNSUPPORTED);
        allThrow(desk);
        Check.due("read", Check.read(desk, "UNB'UNH'UNT'UNZ'"), 1);
        Check.due("interchange", desk.interchange(1), 1);
    }

    /** "How many segments, messages, groups there are, and the CODE: which 0, 1, 2, 3." */
    private static void interchanges() {
        Desk flat = Check.having("UNB+++R'UNH'ABC'UNT'UNH'UNT'UNZ+2+S'", 2);
        int[] due = {7, 2, 0, 1};
        for (int which = 0; which < 4; which++) {
            Check.due("interchange " + which, flat.interchange(which), due[which]);
        }
        Desk grouped = Check.having("UNA:+.? 'UNB'UNG'UNH'UNT'UNH'UNT'UNE'UNG'UNH'UNT'UNE'UNZ'", 3);
        int[] others = {12, 3, 2, 3};
        for (int which = 0; which < 4; which++) {
            Check.due("interchange " + which, grouped.interchange(which), others[which]);
        }
    }

    /** "NONE for any other which." */
    private static void anyOtherWhich() {
        Desk desk = Check.having("UNB'UNH'UNT'UNZ'", 1);
        Check.due("which 4", desk.interchange(4), -1);
        for (int which : FAR) {
            Check.due("which " + which, desk.interchange(which), -1);
        }
    }

    private static Desk ofThree() {
        return Check.having("UNB'UNG'UNH+A'XYZ'XYZ'UNT+4+A'UNH'UNT'UNE'UNG'UNH+C+1'UNT+3+C'UNE'UNZ'", 3);
    }

    /** "w = 0: its CODE, 1: its PLACE, 2: how many segments it has, with UNH and UNT, 3: its group" */
    private static void messages() {
        Desk desk = ofThree();
        int[][] due = {{3, 2, 4, 0}, {1, 7, 2, 0}, {2, 11, 2, 1}};
        for (int m = 0; m < 3; m++) {
            for (int w = 0; w < 4; w++) {
                Check.due("message " + m + " " + w, desk.message(m, w), due[m][w]);
            }
        }
        Desk longest = new Desk();
        Check.table(longest, 1, "ABC99");
        Check.due("read", Check.read(longest, "UNB'UNH+M+1'" + "ABC'".repeat(36) + "UNT+38+M'UNZ'"), 1);
        Check.due("nothing is wrong", Check.verdict(longest, 0), "0 at -1");
        Check.due("the most segments", longest.message(0, 2), 38);
    }

    /** message: "NONE if there is none such." */
    private static void noSuchMessage() {
        Desk desk = ofThree();
        for (int m = 0; m < 3; m++) {
            Check.due("w 4", desk.message(m, 4), -1);
            for (int w : FAR) {
                Check.due("w " + w, desk.message(m, w), -1);
            }
        }
        for (int w = -1; w < 5; w++) {
            Check.due("message 3", desk.message(3, w), -1);
            for (int m : FAR) {
                Check.due("message " + m, desk.message(m, w), -1);
            }
        }
    }

    /** "(from 0; NONE if there are no groups)" */
    private static void noGroupsForMessages() {
        Desk flat = Check.having("UNB'UNH+A'UNT+2+A'UNH'UNT'UNZ'", 2);
        Check.due("no group", flat.message(0, 3), -1);
        Check.due("no group", flat.message(1, 3), -1);
        Check.due("its code", flat.message(0, 0), 3);
    }

    /** "The CODE of group g; NONE if there is none such." */
    private static void groups() {
        Desk desk = Check.having("UNB'UNG+G'UNH'UNT'UNE+1+G'UNG'UNH'UNT'UNE'UNZ'", 2);
        Check.due("group 0", desk.group(0), 0);
        Check.due("group 1", desk.group(1), 3);
        Check.due("group 2", desk.group(2), -1);
        for (int g : FAR) {
            Check.due("group " + g, desk.group(g), -1);
        }
        Desk flat = Check.having("UNB'UNH'UNT'UNZ'", 1);
        Check.due("no groups", flat.group(0), -1);
        for (int g : FAR) {
            Check.due("group " + g, flat.group(g), -1);
        }
    }

    private static Desk ofFive() {
        return Check.having("UNB'UNH'ABC+x?+y:z++:'UNT'UNZ+'", 1);
    }

    /** "if e is -2, its tag as a number (as in slot)", whatever c and i are */
    private static void tags() {
        Desk desk = ofFive();
        String[] due = {"UNB", "UNH", "ABC", "UNT", "UNZ"};
        for (int s = 0; s < 5; s++) {
            Check.due("tag", desk.segment(s, -2, 0, 0), Check.tag(due[s]));
            Check.due("tag", desk.segment(s, -2, -1, -1), Check.tag(due[s]));
            for (int any : FAR) {
                Check.due("tag", desk.segment(s, -2, any, any), Check.tag(due[s]));
            }
        }
    }

    /** "if e is -1, how many elements the segment has", whatever c and i are */
    private static void elements() {
        Desk desk = ofFive();
        int[] due = {0, 0, 3, 0, 1};
        for (int s = 0; s < 5; s++) {
            Check.due("elements", desk.segment(s, -1, 0, 0), due[s]);
            Check.due("elements", desk.segment(s, -1, -1, -1), due[s]);
            for (int any : FAR) {
                Check.due("elements", desk.segment(s, -1, any, any), due[s]);
            }
        }
    }

    /** "if c is -1, how many components the element has", whatever i is */
    private static void components() {
        Desk desk = ofFive();
        int[] due = {2, 1, 2};
        for (int e = 0; e < 3; e++) {
            Check.due("components", desk.segment(2, e, -1, 0), due[e]);
            for (int any : FAR) {
                Check.due("components", desk.segment(2, e, -1, any), due[e]);
            }
        }
        Check.due("of an empty element", desk.segment(4, 0, -1, 0), 1);
    }

    /** "Character i (from 0) of component c of element e of segment s, as its code; how many .. -1" */
    private static void characters() {
        Desk desk = ofFive();
        Check.due("how many", desk.segment(2, 0, 0, -1), 3);
        Check.due("how many", desk.segment(2, 0, 1, -1), 1);
        Check.due("of an empty one", desk.segment(2, 1, 0, -1), 0);
        Check.due("of an empty one", desk.segment(2, 2, 0, -1), 0);
        Check.due("of an empty one", desk.segment(2, 2, 1, -1), 0);
        Check.due("of an empty one", desk.segment(4, 0, 0, -1), 0);
        Check.due("character", desk.segment(2, 0, 0, 0), (int) 'x');
        Check.due("character", desk.segment(2, 0, 0, 1), (int) '+');
        Check.due("character", desk.segment(2, 0, 0, 2), (int) 'y');
        Check.due("character", desk.segment(2, 0, 1, 0), (int) 'z');
        Desk longest = Check.having("UNB'UNH'ABC+" + "x".repeat(378) + "~'UNT'UNZ'", 1);
        Check.due("how many", longest.segment(2, 0, 0, -1), 379);
        Check.due("the last one", longest.segment(2, 0, 0, 378), (int) '~');
        Check.due("behind it", longest.segment(2, 0, 0, 379), -1);
    }

    /** segment: "NONE if there is none such." */
    private static void noSuchSegment() {
        Desk desk = ofFive();
        for (int e = -2; e < 2; e++) {
            Check.due("segment 5", desk.segment(5, e, -1, -1), -1);
            Check.due("segment 5", desk.segment(5, e, 0, 0), -1);
            for (int far : FAR) {
                Check.due("segment " + far, desk.segment(far, e, -1, -1), -1);
                Check.due("segment " + far, desk.segment(far, e, 0, 0), -1);
            }
        }
    }

    private static void noSuchElement() {
        Desk desk = ofFive();
        for (int c = -1; c < 2; c++) {
            for (int i = -1; i < 2; i++) {
                Check.due("element 3", desk.segment(2, 3, c, i), -1);
                Check.due("element -3", desk.segment(2, -3, c, i), -1);
                Check.due("of a bare segment", desk.segment(0, 0, c, i), -1);
                Check.due("the one behind", desk.segment(4, 1, c, i), -1);
                for (int far : FAR) {
                    if (far != -1 && far != -2) {
                        Check.due("element " + far, desk.segment(2, far, c, i), -1);
                    }
                }
            }
        }
    }

    private static void noSuchComponent() {
        Desk desk = ofFive();
        for (int i = -1; i < 2; i++) {
            Check.due("component 2", desk.segment(2, 0, 2, i), -1);
            Check.due("component 1", desk.segment(2, 1, 1, i), -1);
            Check.due("component 2", desk.segment(2, 2, 2, i), -1);
            Check.due("component 1", desk.segment(4, 0, 1, i), -1);
            for (int far : FAR) {
                if (far != -1) {
                    Check.due("component " + far, desk.segment(2, 0, far, i), -1);
                }
            }
        }
    }

    private static void noSuchCharacter() {
        Desk desk = ofFive();
        Check.due("behind the component", desk.segment(2, 0, 0, 3), -1);
        Check.due("behind the component", desk.segment(2, 0, 1, 1), -1);
        Check.due("in an empty one", desk.segment(2, 1, 0, 0), -1);
        Check.due("in an empty one", desk.segment(2, 2, 0, 0), -1);
        Check.due("in an empty one", desk.segment(2, 2, 1, 0), -1);
        Check.due("in an empty one", desk.segment(4, 0, 0, 0), -1);
        for (int far : FAR) {
            if (far != -1) {
                Check.due("character " + far, desk.segment(2, 0, 0, far), -1);
                Check.due("character " + far, desk.segment(2, 1, 0, far), -1);
            }
        }
    }
}
