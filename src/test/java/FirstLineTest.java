/** Of the terms: the first line that chooses the marks, and the marks if there is none. */
public final class FirstLineTest {
    private static final String USUAL = "UNB+++R'UNH+M+1'ABC+a:b+?:?+???''UNT+3+M'UNZ+1+R'";
    private static final String MARKS = "!\"#$%&'()*+,-./:;<=>?@[\\]^_`{|}~";

    public static void main(String[] args) {
        eachCharacterInEachPlace();
        lettersDigitsAndBlanks();
        allDifferent();
        tooShort();
        thirdIsNoMark();
        noReleaseMark();
        segmentsBegin();
        onlyAtTheBeginning();
        usualMarks();
        marksOfEachTextAlone();
        Check.end();
    }

    /** An interchange with these marks, in the order of the first line. */
    private static String interchange(String six) {
        StringBuilder some = new StringBuilder();
        for (char c : "UNB+++R'UNH+M+1'ABC+a:b'UNT+3+M'UNZ+1+R'".toCharArray()) {
            int at = ":+..-'".indexOf(c);
            some.append(at < 0 ? c : six.charAt(at));
        }
        return some.toString();
    }

    private static boolean canStand(String six, int place) {
        char c = six.charAt(place);
        if (place == 2) {
            return true;
        }
        if (place == 4 || place == 3 && c == ' ') {
            return c == ' ';
        }
        String before = six.substring(0, Math.min(place, 2)) + (place > 3 ? six.substring(3, 4) : "");
        return MARKS.indexOf(c) >= 0 && before.indexOf(c) < 0;
    }

    /** "the six characters behind that are the COMPONENT mark, the ELEMENT mark, any one, .." */
    private static void eachCharacterInEachPlace() {
        for (int place = 0; place < 6; place++) {
            for (char c = 32; c <= 126; c++) {
                String six = "(].} ~".substring(0, place) + c + "(].} ~".substring(place + 1);
                int wrong = 0;
                while (wrong < 6 && canStand(six, wrong)) {
                    wrong++;
                }
                String text = "UNA" + six + interchange(six);
                if (wrong < 6) {
                    Check.faulty(text, 3 + wrong);
                } else {
                    Desk desk = Check.fine(text, 1);
                    Check.due("print of " + text, Check.printOf(desk),
                            "UNB+++R'UNH+M+1'ABC+a:b'UNT+3+M'UNZ+1+R'");
                }
            }
        }
    }

    /** "these marks (but the blank for none) are no letters, digits or blanks" */
    private static void lettersDigitsAndBlanks() {
        for (char c : "AZaz09 ".toCharArray()) {
            Check.faulty("UNA" + c, 3);
            Check.faulty("UNA:" + c, 4);
            Check.faulty("UNA:+." + c, c == ' ' ? 7 : 6);
            Check.faulty("UNA:+.?" + c, c == ' ' ? 8 : 7);
            Check.faulty("UNA:+.? " + c, 8);
            Check.faulty("UNA:+.  " + c, 8);
        }
        // The characters next to letters, digits and the blank, and the last one of all.
        for (char c : "!/:@[`{~".toCharArray()) {
            Check.faulty("UNA" + c, 4);
            Check.faulty("UNA;" + c, 5);
            Check.faulty("UNA;+." + c, 7);
            Check.faulty("UNA;+.? " + c, 9);
            Check.faulty("UNA;+.?" + c, 7);
        }
    }

    /** "and all different" */
    private static void allDifferent() {
        Check.faulty("UNA::", 4);
        Check.faulty("UNA::.? '", 4);
        Check.faulty("UNA:+.:", 6);
        Check.faulty("UNA:+.: '", 6);
        Check.faulty("UNA:+.+", 6);
        Check.faulty("UNA:+.+ '", 6);
        Check.faulty("UNA:+.? :", 8);
        Check.faulty("UNA:+.? +", 8);
        Check.faulty("UNA:+.? ?", 8);
        Check.faulty("UNA:+.  :", 8);
        Check.faulty("UNA:+.  +", 8);
        Check.faulty("UNA:+. ?", 7);
        Check.faulty("UNA:+.?'", 7);
        // The usual ones in other places are different too.
        Check.fine("UNA+:.' ?UNB:::R?UNH:M:1?UNT:2:M?UNZ:1:R?", 1);
    }

    private static void tooShort() {
        String first = "UNA:+.? '";
        for (int n = 0; n <= first.length(); n++) {
            Check.faulty(first.substring(0, n), n);
        }
        Check.faulty("UNA'", 4);
        Check.faulty("UNA+ABC'", 4);
        Check.faulty("UNA+:", 5);
        Check.faulty("UNA:+.? ''", 9);
        Check.faulty("UNA:+.? ' ", 9);
        Check.faulty("UNA:+.? 'AB", 11);
        Check.faulty("UNA;+.? 'ABC+a:b", 16);
        Check.faulty("UNA;+.! 'ABC+a!", 15);
        Check.faulty("UNA;+.! 'ABC;", 12);
    }

    /** "any one": the third one may be a mark too, and makes no character one. */
    private static void thirdIsNoMark() {
        for (char c = 32; c <= 126; c++) {
            String text = "UNA:+" + c + "? '" + USUAL;
            Desk desk = Check.fine(text, 1);
            Check.due("print of " + text, Check.printOf(desk), USUAL);
        }
        Desk desk = Check.fine("UNA:+,? 'UNB+++R'UNH+M+1'ABC+a,b.c'UNT+3+M'UNZ+1+R'", 1);
        Check.due("components", desk.segment(2, 0, -1, 0), 1);
        Check.due("characters", desk.segment(2, 0, 0, -1), 5);
    }

    /** "the RELEASE mark (a blank for none)" */
    private static void noReleaseMark() {
        Desk desk = Check.fine("UNA:+.  'UNB+++R? ?'UNH+M+1'ABC+? +?+ :? 'UNT+3+M'UNZ+1+R? ?'", 1);
        Check.due("print", Check.printOf(desk),
                "UNB+++R?? ??'UNH+M+1'ABC+?? +??+ :?? 'UNT+3+M'UNZ+1+R?? ??'");
        Check.due("a blank", desk.segment(2, 0, 0, 1), (int) ' ');
        Check.due("elements", desk.segment(2, -1, 0, 0), 3);
        // The end of a text without a release mark is never in want of a character.
        Check.faulty("UNA:+.  'ABC+ ", 14);
        Check.unfit("UNA:+.  'ABC+ '");
        Check.unfit("UNA:+.  'ABC+?'");
    }

    /** "and the segments begin behind them" */
    private static void segmentsBegin() {
        Desk desk = Check.fine("UNA:+.? '" + USUAL, 1);
        Check.due("segments", desk.interchange(0), 5);
        Check.due("the first one", desk.segment(0, -2, 0, 0), Check.tag("UNB"));
        Check.due("print", Check.printOf(desk), USUAL);
        Check.faulty("UNA:+.? ' " + USUAL, 9);
        Check.faulty("UNA:+.? '\"" + USUAL, 9);
        // A second first line is a segment as any other.
        Check.unfit("UNA:+.? 'UNA+.? '" + USUAL);
        Check.faulty("UNA:+.? 'UNA:+.? '" + USUAL, 12);
    }

    /** "If it begins with UNA" */
    private static void onlyAtTheBeginning() {
        Check.faulty(" UNA:+.? '" + USUAL, 0);
        Check.faulty("XNA:", 3);
        Check.faulty("UXA:", 3);
        Check.faulty("UNX:", 3);
        Check.faulty("XXA:", 3);
        Check.faulty("UNB:", 3);
        Check.faulty("una:+.? '", 0);
        Check.faulty("UNa:+.? '", 2);
        Check.unfit("XNA+'");
        Check.unfit("UXA+'");
        Check.unfit("UNX+'");
        Check.fine("UNB+++R'UNH+M+1'UNA'UNT+3+M'UNZ+1+R'", 1);
        Check.unfit("ABC'UNA+x'");
    }

    /** "Otherwise they are : + ? and ' (the third one . is not used)." */
    private static void usualMarks() {
        Desk desk = Check.fine(USUAL, 1);
        Check.due("print", Check.printOf(desk), USUAL);
        Check.due("elements", desk.segment(2, -1, 0, 0), 2);
        Check.due("components", desk.segment(2, 0, -1, 0), 2);
        Check.due("released", desk.segment(2, 1, 0, -1), 4);
        Desk dots = Check.fine("UNB+++R'UNH+M+1'ABC+1.5+...'UNT+3+M'UNZ+1+R'", 1);
        Check.due("with a dot", dots.segment(2, 0, 0, -1), 3);
        Check.due("dots", dots.segment(2, 1, 0, -1), 3);
    }

    private static void marksOfEachTextAlone() {
        String chosen = "UNA*!x% #UNB!!!R%%:+#UNH!M!1#ABC!a*b*%*%!%##UNT!3!M#UNZ!1!R%%:+#";
        Desk desk = Check.fine(chosen, 1);
        String print = "UNB+++R%?:?+'UNH+M+1'ABC+a:b:*!#'UNT+3+M'UNZ+1+R%?:?+'";
        Check.due("print", Check.printOf(desk), print);
        Check.due("read", Check.read(desk, USUAL), 1);
        Check.due("print", Check.printOf(desk), USUAL);
        // Not even of one that was refused.
        Check.due("read", Check.read(desk, "UNA*!x% #UNB!"), Check.ARGUMENT);
        Check.due("read", Check.read(desk, "UNB+*!%#'"), Check.UNSUPPORTED);
        Check.due("read", Check.read(desk, "UNA*!x%x"), Check.ARGUMENT);
        Check.due("read", Check.read(desk, USUAL), 1);
        Desk none = Check.fine("UNA:+.  'UNB+++R'UNH+M+1'UNT+2+M'UNZ+1+R'", 1);
        Check.due("read", Check.read(none, USUAL), 1);
        Check.due("print", Check.printOf(none), USUAL);
    }
}
