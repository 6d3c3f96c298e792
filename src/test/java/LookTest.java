/** Promises 11 to 14: interchange, message, group, segment. */
public final class LookTest {
    private static final int[] FAR = {-3, -2, -1, 99, 400, Integer.MIN_VALUE, Integer.MAX_VALUE};

    public static void main(String[] args) {
        counts();
        codesOfInterchanges();
        codesOfGroups();
        messages();
        segments();
        Check.end();
    }

    private static void counts() {
        InterchangeDesk flat = Check.having("UNB'UNH'ABC'UNT'UNH'UNT'UNZ'", 2);
        Check.due("segments", flat.interchange(0), 7);
        Check.due("messages", flat.interchange(1), 2);
        Check.due("groups", flat.interchange(2), 0);
        InterchangeDesk grouped = Check.having(
                "UNA:+.? 'UNB'UNG'UNH'UNT'UNH'UNT'UNE'UNG'UNH'UNT'UNE'UNZ'", 3);
        Check.due("segments", grouped.interchange(0), 12);
        Check.due("messages", grouped.interchange(1), 3);
        Check.due("groups", grouped.interchange(2), 2);
        for (int which : new int[] {-1, 4, 5, Integer.MIN_VALUE, Integer.MAX_VALUE}) {
            Check.due("interchange " + which, grouped.interchange(which), -1);
        }
    }

    private static void whole(String unb, String unz, int code) {
        InterchangeDesk flat = Check.having(unb + "'UNH'UNT'UNH'UNT'" + unz + "'", 2);
        Check.due(unb + " " + unz, flat.interchange(3), code);
        InterchangeDesk grouped = Check.having(
                unb + "'UNG'UNH'UNT'UNE'UNG'UNH'UNT'UNH'UNT'UNE'" + unz + "'", 3);
        Check.due("grouped " + unb + " " + unz, grouped.interchange(3), code);
    }

    private static void codesOfInterchanges() {
        whole("UNB+a+b+R", "UNZ+2+R", 0);
        whole("UNB+++R:x", "UNZ+2:y+R:z", 0);
        whole("UNB+++R", "UNZ+2+S", 1);
        whole("UNB+++R", "UNZ+2", 1);
        whole("UNB", "UNZ+2", 1);
        whole("UNB+++", "UNZ+2+", 1);
        whole("UNB+R+R", "UNZ+2+R", 1);
        whole("UNB+++R", "UNZ+3+R", 3 - 1);
        whole("UNB+++R", "UNZ+02+R", 2);
        whole("UNB+++R", "UNZ++R", 2);
        whole("UNB+++R", "UNZ+1+S", 3);
        whole("UNB", "UNZ", 3);
    }

    private static void codesOfGroups() {
        InterchangeDesk desk = Check.having("UNB+++R'UNG+G'UNH'UNT'UNH'UNT'UNE+2+G'"
                + "UNG+G'UNH'UNT'UNE+1+H'UNG+G'UNH'UNT'UNE+2+G'UNG'UNH'UNT'UNE+0'"
                + "UNG'UNH'UNT'UNE+1+'UNZ+5+R'", 6);
        int[] due = {0, 1, 2, 3, 1};
        for (int g = 0; g < due.length; g++) {
            Check.due("group " + g, desk.group(g), due[g]);
        }
        Check.due("group 5", desk.group(5), -1);
        for (int g : FAR) {
            Check.due("group " + g, desk.group(g), -1);
        }
        Check.due("interchange", desk.interchange(3), 0);
        Check.due("no groups", Check.having("UNB'UNH'UNT'UNZ'", 1).group(0), -1);
    }

    private static void messages() {
        InterchangeDesk desk = Check.having("UNB'UNG'UNH+A'XYZ'XYZ'UNT+4+A'UNH'UNT'UNE'"
                + "UNG'UNH+C+1'UNT+3+C'UNE'UNZ'", 3);
        int[][] due = {{3, 2, 4, 0}, {1, 7, 2, 0}, {2, 11, 2, 1}};
        for (int m = 0; m < 3; m++) {
            for (int w = 0; w < 4; w++) {
                Check.due("message " + m + " " + w, desk.message(m, w), due[m][w]);
            }
            Check.due("w 4", desk.message(m, 4), -1);
            for (int w : FAR) {
                Check.due("w " + w, desk.message(m, w), -1);
            }
        }
        for (int w = 0; w < 4; w++) {
            Check.due("message 3", desk.message(3, w), -1);
            for (int m : FAR) {
                Check.due("message " + m, desk.message(m, w), -1);
            }
        }
        InterchangeDesk flat = Check.having("UNB'UNH+A'UNT+2+A'UNZ'", 1);
        Check.due("no group", flat.message(0, 3), -1);
        Check.due("its code", flat.message(0, 0), 3);
    }

    private static void segments() {
        InterchangeDesk desk = Check.having("UNB'UNH'ABC+x?+y:z++:'UNT'UNZ+'", 1);
        Check.due("tag", desk.segment(2, -2, 7, 7), Check.tag("ABC"));
        Check.due("tag", desk.segment(0, -2, -1, -1), Check.tag("UNB"));
        Check.due("tag", desk.segment(4, -2, -1, -1), Check.tag("UNZ"));
        Check.due("elements", desk.segment(2, -1, -1, -1), 3);
        Check.due("elements", desk.segment(2, -1, 99, -99), 3);
        Check.due("elements", desk.segment(0, -1, 0, 0), 0);
        Check.due("elements", desk.segment(4, -1, 0, 0), 1);
        Check.due("components", desk.segment(2, 0, -1, 5), 2);
        Check.due("components", desk.segment(2, 1, -1, -1), 1);
        Check.due("components", desk.segment(2, 2, -1, 0), 2);
        Check.due("components", desk.segment(4, 0, -1, 0), 1);
        Check.due("characters", desk.segment(2, 0, 0, -1), 3);
        Check.due("characters", desk.segment(2, 0, 1, -1), 1);
        Check.due("characters", desk.segment(2, 1, 0, -1), 0);
        Check.due("characters", desk.segment(2, 2, 1, -1), 0);
        Check.due("character", desk.segment(2, 0, 0, 0), (int) 'x');
        Check.due("character", desk.segment(2, 0, 0, 1), (int) '+');
        Check.due("character", desk.segment(2, 0, 0, 2), (int) 'y');
        Check.due("character", desk.segment(2, 0, 1, 0), (int) 'z');
        Check.due("behind the component", desk.segment(2, 0, 0, 3), -1);
        Check.due("behind the component", desk.segment(2, 0, 1, 1), -1);
        Check.due("in an empty one", desk.segment(2, 1, 0, 0), -1);
        Check.due("no component", desk.segment(2, 0, 2, 0), -1);
        Check.due("no component", desk.segment(2, 0, 2, -1), -1);
        Check.due("no component", desk.segment(2, 0, -2, 0), -1);
        Check.due("no element", desk.segment(2, 3, 0, 0), -1);
        Check.due("no element", desk.segment(2, 3, 0, -1), -1);
        Check.due("no element", desk.segment(2, 3, -1, 0), -1);
        Check.due("no element", desk.segment(2, -3, -1, 0), -1);
        Check.due("no element", desk.segment(0, 0, -1, 0), -1);
        Check.due("no segment", desk.segment(5, -2, 0, 0), -1);
        Check.due("no segment", desk.segment(5, -1, 0, 0), -1);
        Check.due("no segment", desk.segment(-1, -2, 0, 0), -1);
        for (int far : FAR) {
            Check.due("segment " + far, desk.segment(far, 0, 0, 0), -1);
            Check.due("segment " + far, desk.segment(far, -2, 0, 0), -1);
            if (far != -1) {
                Check.due("component " + far, desk.segment(2, 0, far, -1), -1);
                Check.due("character " + far, desk.segment(2, 0, 0, far), -1);
                if (far != -2) {
                    Check.due("element " + far, desk.segment(2, far, -1, -1), -1);
                }
            }
        }
    }
}
