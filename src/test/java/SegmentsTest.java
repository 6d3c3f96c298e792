/** Of the terms: what segments, tags, elements and components may be, and how many. */
public final class SegmentsTest {
    public static void main(String[] args) {
        oneSegmentAtLeast();
        fortySegmentsAtMost();
        nothingMore();
        tagsOfThreeLetters();
        behindTheTag();
        elementsAndComponents();
        anyCharacters();
        anyCharacterReleased();
        releaseAtTheEnd();
        releaseInTagsAndBetween();
        componentsAtMost();
        componentsOfAllSegments();
        countedFromZero();
        fullText();
        Check.end();
    }

    /** "The rest is SEGMENTS, 1 .. 40 of them" */
    private static void oneSegmentAtLeast() {
        Check.faulty("", 0);
        Check.faulty("UNA:+.? '", 9);
        Check.unfit("ABC'");
        Check.unfit("UNA:+.? 'ABC'");
    }

    private static void fortySegmentsAtMost() {
        String forty = "ABC'".repeat(40);
        Check.unfit("ABC'".repeat(39));
        Check.unfit(forty);
        for (String more : new String[] {"D", "DE", "DEF", "DEF'", "DEF+x'", "DEF'GHI'", " ", "'"}) {
            Check.faulty(forty + more, 160);
        }
        // The first line is no segment.
        Check.unfit("UNA:+.? '" + forty);
        Check.faulty("UNA:+.? '" + forty + "D", 169);
        Desk most = Check.fine("UNB+++R'UNH+M+1'" + "ABC'".repeat(36) + "UNT+38+M'UNZ+1+R'", 1);
        Check.due("segments", most.interchange(0), 40);
        Check.due("the last one", most.segment(39, -2, 0, 0), Check.tag("UNZ"));
        Check.due("behind it", most.segment(40, -2, 0, 0), -1);
        String over = "UNB+++R'UNH+M+1'" + "ABC'".repeat(37) + "UNT+39+M'UNZ+1+R'";
        Check.faulty(over, over.length() - "UNZ+1+R'".length());
    }

    /** "and nothing more" */
    private static void nothingMore() {
        String one = "UNB'UNH'UNT'UNZ'";
        Check.fine(one, 1);
        for (char c = 32; c <= 126; c++) {
            Check.faulty(one + c, c >= 'A' && c <= 'Z' ? 17 : 16);
        }
        Check.faulty(" " + one, 0);
        Check.faulty("UNB' UNH'UNT'UNZ'", 4);
        Check.faulty("UNB''UNH'UNT'UNZ'", 4);
    }

    /** "a TAG of three letters A .. Z" */
    private static void tagsOfThreeLetters() {
        for (int place = 0; place < 3; place++) {
            for (char c = 32; c <= 126; c++) {
                String tag = "ABC".substring(0, place) + c + "ABC".substring(place + 1);
                if (c >= 'A' && c <= 'Z') {
                    Check.unfit(tag + "'");
                    Check.unfit("ABC'" + tag + "+x'");
                } else {
                    Check.faulty(tag + "'", place);
                    Check.faulty("ABC'" + tag + "+x'", 4 + place);
                }
            }
        }
        Check.faulty("A'", 1);
        Check.faulty("AB'", 2);
        Check.faulty("AB+x'", 2);
        Check.faulty("ABCD'", 3);
        Check.faulty("A", 1);
        Check.faulty("AB", 2);
        Check.faulty("ABC", 3);
    }

    /** "then any number of ELEMENTS, each with an ELEMENT mark ahead of it, then an END mark" */
    private static void behindTheTag() {
        for (char c = 32; c <= 126; c++) {
            if (c == '+' || c == '\'') {
                Check.unfit("ABC" + c + (c == '+' ? "'" : ""));
            } else {
                Check.faulty("ABC" + c + "'", 3);
            }
        }
        Check.faulty("ABC+", 4);
        Check.faulty("ABC+x", 5);
        Check.faulty("ABC+x+", 6);
        Check.faulty("ABC+x:", 6);
        Check.faulty("ABC'DEF", 7);
        Check.faulty("ABC'DEFG", 7);
        for (int n = 0; n <= 120; n += 15) {
            Check.unfit("ABC" + "+".repeat(n) + "'");
        }
    }

    /** "An element is one or more COMPONENTS with a COMPONENT mark between each two." */
    private static void elementsAndComponents() {
        Desk desk = Check.fine("UNB'UNH'ABC'ABC+'ABC++'ABC+:'ABC+::+:+'ABC+a:b+c'UNT'UNZ'", 1);
        int[][] due = {{}, {1}, {1, 1}, {2}, {3, 2, 1}, {2, 1}};
        for (int s = 0; s < due.length; s++) {
            Check.due("elements of " + s, desk.segment(2 + s, -1, 0, 0), due[s].length);
            for (int e = 0; e < due[s].length; e++) {
                Check.due("components of " + s + " " + e, desk.segment(2 + s, e, -1, 0), due[s][e]);
            }
            Check.due("no element", desk.segment(2 + s, due[s].length, -1, 0), -1);
        }
    }

    /** "A component is any number of characters that are no marks" */
    private static void anyCharacters() {
        for (char c = 32; c <= 126; c++) {
            if (":+?'".indexOf(c) < 0) {
                Desk desk = Check.fine("UNB'UNH'ABC+" + c + "x" + c + "'UNT'UNZ'", 1);
                Check.due("elements", desk.segment(2, -1, 0, 0), 1);
                Check.due("components", desk.segment(2, 0, -1, 0), 1);
                Check.due("characters", desk.segment(2, 0, 0, -1), 3);
                Check.due("character", desk.segment(2, 0, 0, 0), (int) c);
                Check.due("character", desk.segment(2, 0, 0, 2), (int) c);
            }
        }
        Check.faulty("ABC+a'b", 6);
        Check.faulty("ABC+a'b'", 6);
    }

    /** "a RELEASE mark and the character behind it, whatever that is, stand for that character" */
    private static void anyCharacterReleased() {
        for (char c = 32; c <= 126; c++) {
            Desk usual = Check.fine("UNB'UNH'ABC+?" + c + "x?" + c + "'UNT'UNZ'", 1);
            Desk chosen = Check.fine("UNA*!x% #UNB#UNH#ABC!%" + c + "x%" + c + "#UNT#UNZ#", 1);
            for (Desk desk : new Desk[] {usual, chosen}) {
                Check.due("segments", desk.interchange(0), 5);
                Check.due("elements", desk.segment(2, -1, 0, 0), 1);
                Check.due("components", desk.segment(2, 0, -1, 0), 1);
                Check.due("characters", desk.segment(2, 0, 0, -1), 3);
                Check.due("character", desk.segment(2, 0, 0, 0), (int) c);
                Check.due("character", desk.segment(2, 0, 0, 1), (int) 'x');
                Check.due("character", desk.segment(2, 0, 0, 2), (int) c);
                Check.due("behind it", desk.segment(2, 0, 0, 3), -1);
            }
        }
        Desk twice = Check.fine("UNB'UNH'ABC+????+???'+??'UNT'UNZ'", 1);
        Check.due("elements", twice.segment(2, -1, 0, 0), 3);
        Check.due("two", twice.segment(2, 0, 0, -1), 2);
        Check.due("two", twice.segment(2, 1, 0, -1), 2);
        Check.due("its end mark", twice.segment(2, 1, 0, 1), (int) '\'');
        Check.due("one", twice.segment(2, 2, 0, -1), 1);
    }

    private static void releaseAtTheEnd() {
        Check.faulty("ABC+?", 5);
        Check.faulty("ABC+x?", 6);
        Check.faulty("ABC+?'", 6);
        Check.faulty("ABC+??", 6);
        Check.faulty("ABC+???", 7);
        Check.faulty("ABC+???'", 8);
        Check.unfit("ABC+??'");
        Check.unfit("ABC+?''");
        Check.unfit("ABC+a?'b'");
        // At the end of a full text.
        Check.faulty("ABC+" + "x".repeat(395) + "?", 400);
        Check.faulty("ABC+" + "x".repeat(394) + "?'", 400);
        Check.unfit("ABC+" + "x".repeat(393) + "?''");
    }

    private static void releaseInTagsAndBetween() {
        Check.faulty("?ABC'", 0);
        Check.faulty("A?BC'", 1);
        Check.faulty("ABC?'", 3);
        Check.faulty("ABC?+x'", 3);
        Check.faulty("ABC'?DEF'", 4);
        Check.faulty("ABC'?", 4);
    }

    /** "There are at most 120 components in all." */
    private static void componentsAtMost() {
        Check.unfit("ABC" + "+".repeat(119) + "'");
        Check.unfit("ABC" + "+".repeat(120) + "'");
        Check.faulty("ABC" + "+".repeat(121) + "'", 123);
        Check.unfit("ABC+" + ":".repeat(118) + "'");
        Check.unfit("ABC+" + ":".repeat(119) + "'");
        Check.faulty("ABC+" + ":".repeat(120) + "'", 123);
        Check.faulty("ABC+" + ":".repeat(119) + "+'", 123);
        Check.faulty("ABC" + "+".repeat(120) + ":'", 123);
        Check.faulty("ABC" + "+".repeat(120) + "+", 123);
        Check.faulty("ABC" + "+".repeat(120), 123);
        Check.faulty("ABC" + "+".repeat(120) + "x", 124);
        Check.faulty("ABC" + "+".repeat(120) + "x:y", 124);
        Check.faulty("ABC" + "+".repeat(120) + "x+y", 124);
        // Marks that are released begin none.
        Check.unfit("ABC" + "+".repeat(120) + "x?:y?+'DEF'");
    }

    private static void componentsOfAllSegments() {
        Check.unfit("ABC" + "+".repeat(120) + "'DEF'");
        Check.faulty("ABC" + "+".repeat(120) + "'DEF+'", 127);
        Check.faulty("ABC" + "+".repeat(120) + "'DEF'GHI+", 131);
        Check.unfit("ABC" + "+".repeat(119) + "'DEF+'");
        Check.faulty("ABC" + "+".repeat(119) + "'DEF++'", 127);
        Check.faulty("ABC" + "+".repeat(119) + "'DEF+:'", 127);
        Check.faulty("ABC" + "+:".repeat(60) + "'DEF'GHI:", 131);
        Check.unfit("ABC+:+'".repeat(40));
        Check.faulty("ABC+:+'".repeat(39) + "ABC+:+:'", 39 * 7 + 6);
        Check.faulty("ABC+:+'".repeat(39) + "ABC+:++'", 39 * 7 + 6);
        // Those of the text before are not counted.
        Desk desk = Check.fine("UNB'UNH'ABC" + "+".repeat(120) + "'UNT'UNZ'", 1);
        Check.due("elements", desk.segment(2, -1, 0, 0), 120);
        Check.due("the last one", desk.segment(2, 119, -1, 0), 1);
        Check.due("the last one", desk.segment(2, 119, 0, -1), 0);
        Check.due("behind it", desk.segment(2, 120, -1, 0), -1);
        Check.due("read", Check.read(desk, "UNB'UNH'ABC+" + ":".repeat(119) + "'UNT'UNZ'"), 1);
        Check.due("components", desk.segment(2, 0, -1, 0), 120);
        Check.due("the last one", desk.segment(2, 0, 119, -1), 0);
        Check.due("behind it", desk.segment(2, 0, 120, -1), -1);
    }

    /** "Elements and components are counted from 0" */
    private static void countedFromZero() {
        Desk desk = Check.fine("UNB'UNH'ABC+a:b+c'UNT'UNZ'", 1);
        Check.due("0 0", desk.segment(2, 0, 0, 0), (int) 'a');
        Check.due("0 1", desk.segment(2, 0, 1, 0), (int) 'b');
        Check.due("1 0", desk.segment(2, 1, 0, 0), (int) 'c');
    }

    private static void fullText() {
        Check.faulty("ABC+" + "x".repeat(396), 400);
        Check.unfit("ABC+" + "x".repeat(395) + "'");
        Check.faulty("A" + "x".repeat(399), 1);
        Check.faulty("ABC+" + "x".repeat(394) + "'Y", 400);
        Check.faulty("ABC+" + "x".repeat(394) + "'y", 399);
    }
}
