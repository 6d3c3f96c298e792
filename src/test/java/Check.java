import java.util.concurrent.Callable;

/** Counts the answers that are not as due, and says in short what the tests say often. */
final class Check {
    private static int asked = 0;
    private static int wrong = 0;

    private Check() {
    }

    static void due(String what, Object got, Object want) {
        asked++;
        if (!String.valueOf(got).equals(String.valueOf(want))) {
            wrong++;
            System.out.println(what + " answered " + got + ", due is " + want);
        }
    }

    /** Ends the test: exit code 1 if an answer was not as due, or none was asked for. */
    static void end() {
        System.out.println(asked + " answers, " + wrong + " not as due");
        if (wrong != 0 || asked == 0) {
            System.exit(1);
        }
    }

    /** What a call answers, or throws. followed by the name of what it throws. */
    static String answer(Callable<?> call) {
        try {
            return String.valueOf(call.call());
        } catch (Exception e) {
            return "throws." + e.getClass().getSimpleName();
        }
    }

    static final String ARGUMENT = "throws.IllegalArgumentException";
    static final String STATE = "throws.IllegalStateException";
    static final String UNSUPPORTED = "throws.UnsupportedOperationException";

    static int tag(String letters) {
        return 65536 * letters.charAt(0) + 256 * letters.charAt(1) + letters.charAt(2);
    }

    /** Up to eight characters as a part of the text. */
    static long part(String characters) {
        long part = 0;
        for (char c : characters.toCharArray()) {
            part = part << 8 | c;
        }
        return part;
    }

    static void type(Desk desk, String text) {
        for (int from = 0; from < text.length(); from += 8) {
            String some = text.substring(from, Math.min(text.length(), from + 8));
            due("type " + some, desk.type(part(some)), true);
        }
    }

    /** Wipes, types and reads: the answer of the read. */
    static String read(Desk desk, String text) {
        desk.wipe();
        type(desk, text);
        return answer(desk::read);
    }

    /** A text that is not segments, and how many of its characters are fine. */
    static void faulty(String text, int fine) {
        Desk desk = new Desk();
        due("read " + text, read(desk, text), ARGUMENT);
        due("fault of " + text, desk.fault(), fine);
        due("length of " + text, desk.length(), text.length());
        due("print of " + text, answer(() -> desk.print(-1)), STATE);
    }

    /** A text that is segments, but not in envelopes as said. */
    static void unfit(String text) {
        Desk desk = new Desk();
        due("read " + text, read(desk, text), UNSUPPORTED);
        due("fault of " + text, desk.fault(), -1);
        due("length of " + text, desk.length(), text.length());
        due("print of " + text, answer(() -> desk.print(-1)), STATE);
    }

    /** A text that is an interchange with so many messages; the desk that has read it. */
    static Desk fine(String text, int messages) {
        Desk desk = having(text, messages);
        due("fault of " + text, desk.fault(), -1);
        due("length behind " + text, desk.length(), 0);
        return desk;
    }

    /** A desk that has read a text. */
    static Desk having(String text, int messages) {
        Desk desk = new Desk();
        due("read " + text, read(desk, text), messages);
        return desk;
    }

    static String printOf(Desk desk) {
        StringBuilder all = new StringBuilder();
        int count = desk.print(-1);
        for (int i = 0; i < count; i++) {
            all.append((char) desk.print(i));
        }
        return all.toString();
    }

    static String reportOf(Desk desk) {
        StringBuilder all = new StringBuilder();
        int count = desk.report(-1);
        for (int i = 0; i < count; i++) {
            all.append((char) desk.report(i));
        }
        return all.toString();
    }

    /** Builds a table from words: TAG, TAG! (must) with a most behind it, ( or (! for open, ). */
    static void table(Desk desk, int type, String words) {
        for (String word : words.split(" ")) {
            boolean must = word.contains("!");
            String digits = word.replaceAll("[^0-9]", "");
            int most = digits.isEmpty() ? 1 : Integer.parseInt(digits);
            if (word.equals(")")) {
                due("close", desk.close(type), true);
            } else if (word.startsWith("(")) {
                desk.open(type, must, most);
            } else {
                desk.slot(type, tag(word), must, most);
            }
        }
    }

    /** CODE and PLACE of a message. */
    static String verdict(Desk desk, int m) {
        return desk.message(m, 0) + " at " + desk.message(m, 1);
    }

    /** CODE and PLACE of the one message, of type 1, with these segments. */
    static String verdictOf(Desk desk, String... tags) {
        StringBuilder text = new StringBuilder("UNB+++R'UNH+M+1'");
        for (String t : tags) {
            text.append(t).append("'");
        }
        text.append("UNT+").append(tags.length + 2).append("+M'UNZ+1+R'");
        due("read " + text, read(desk, text.toString()), 1);
        return verdict(desk, 0);
    }
}
