import java.util.concurrent.Callable;
import java.util.function.Consumer;
import java.util.function.Function;

/**
 * "A call that answers false or NONE, or throws, changes nothing (but for what fault() tells of a
 * read)": each such call is made on a desk, and all that can be asked of it then is compared with
 * what a desk answers that was used alike but for that call.
 */
public final class RefusedTest {
    private static final int AAA = Check.tag("AAA");
    private static final String WHOLE = "UNB+++S'UNH+N+1'AAA+x:y'UNT+3+N'UNZ+1+S'";

    public static void main(String[] args) {
        for (State state : new State[] {fresh(), typed(), read(), full(), closed(), unfit()}) {
            wrongBytes(state);
            wrongTypes(state);
            wrongMosts(state);
            wrongTags(state);
            emptyTables(state);
        }
        for (State state : new State[] {typed(), read(), full()}) {
            triggerDue(state);
            threeOpen(state);
            tableFull(state);
        }
        for (State state : new State[] {fresh(), typed(), unfit()}) {
            noInterchange(state);
        }
        for (State state : new State[] {read(), full(), closed()}) {
            noneSuch(state);
        }
        refused(full(), "type two where one has room", d -> d.type(Check.part("AB")), false);
        refused(full(), "type eight where one has room", d -> d.type(Check.part("'BCDEFGH")), false);
        refused(closed(), "close the table's own with items", d -> d.close(0), false);
        refused(closed(), "close the table's own with a group last", d -> d.close(1), false);
        reads();
        Check.end();
    }

    /** How a desk is brought to a state, and what its text wants then to be an interchange. */
    private static final class State {
        final String name;
        final Consumer<Desk> prepare;
        final String rest;

        State(String name, Consumer<Desk> prepare, String rest) {
            this.name = name;
            this.prepare = prepare;
            this.rest = rest;
        }

        Desk desk() {
            Desk desk = new Desk();
            prepare.accept(desk);
            return desk;
        }
    }

    private static State fresh() {
        return new State("fresh", d -> { }, WHOLE);
    }

    /** A trigger is due in table 0, three groups are open in table 1, table 2 is full, table 3 empty. */
    private static void tables(Desk desk) {
        Check.table(desk, 0, "AAA (2");
        Check.table(desk, 1, "AAA! (2 BBB! (3 CCC! (4 DDD!");
        Check.table(desk, 2, "(9 AAA!" + " BBB".repeat(22));
    }

    private static State typed() {
        return new State("typed", d -> {
            tables(d);
            Check.type(d, WHOLE.substring(0, 20));
        }, WHOLE.substring(20));
    }

    private static void readOne(Desk desk) {
        Check.due("read", Check.read(desk, "UNB+++R'UNG+G'UNH+A+1'AAA+?+::b'UNT+3+A'UNH+B+0'UNT+2+B'UNE+2+G'"
                + "UNG+H'UNH+C+3'UNT+2+C'UNE+1+G'UNZ+2+T'"), 3);
    }

    private static State read() {
        return new State("read", d -> {
            tables(d);
            readOne(d);
            Check.type(d, WHOLE.substring(0, 11));
        }, WHOLE.substring(11));
    }

    /** The text wants one character, and the read before threw. */
    private static State full() {
        String head = "UNB+++S'UNH+N+1'AAA'UNT+3+N'UNZ+1+S+";
        return new State("full", d -> {
            tables(d);
            readOne(d);
            Check.due("read", Check.read(d, "ABC+x"), Check.ARGUMENT);
            d.wipe();
            Check.type(d, head + "x".repeat(399 - head.length()));
        }, "'");
    }

    private static State closed() {
        return new State("closed", d -> {
            Check.table(d, 0, "AAA (2 BBB! ) CCC");
            Check.table(d, 1, "AAA (2 BBB! (2 CCC! ) )");
            readOne(d);
        }, WHOLE);
    }

    /** The text is segments, but not in envelopes. */
    private static State unfit() {
        return new State("unfit", d -> {
            Check.table(d, 1, "AAA (2 BBB!");
            Check.type(d, "UNB+++S'UNH+N+1'AAA+x:y'");
        }, WHOLE.substring(24));
    }

    private static void say(StringBuilder all, Callable<?> call) {
        all.append(Check.answer(call)).append(' ');
    }

    /** What can be seen of a desk without a change, but for fault(). */
    private static String seen(Desk desk) {
        StringBuilder all = new StringBuilder();
        say(all, desk::length);
        for (int k = 0; k < 4; k++) {
            int i = k;
            say(all, () -> desk.interchange(i));
            say(all, () -> desk.group(i));
            for (int m = 0; m < 4; m++) {
                int j = m;
                say(all, () -> desk.message(j, i));
            }
        }
        for (int k = 0; k < 13; k++) {
            int s = k;
            for (int e = -2; e < 2; e++) {
                int j = e;
                say(all, () -> desk.segment(s, j, 0, 0));
            }
        }
        say(all, () -> Check.printOf(desk));
        say(all, () -> Check.reportOf(desk));
        return all.toString();
    }

    private static String fault(Desk desk) {
        return Check.answer(desk::fault);
    }

    /** What the text was can be seen if its rest is typed and it is read. */
    private static String read(Desk desk, String rest) {
        StringBuilder all = new StringBuilder();
        for (int from = 0; from < rest.length(); from += 8) {
            String some = rest.substring(from, Math.min(rest.length(), from + 8));
            say(all, () -> desk.type(Check.part(some)));
        }
        say(all, desk::length);
        say(all, desk::read);
        say(all, desk::fault);
        int count = desk.print(-1);
        for (int i = Math.max(0, count - 120); i < count; i++) {
            all.append((char) desk.print(i));
        }
        say(all, () -> count);
        say(all, () -> Check.reportOf(desk));
        return all.toString();
    }

    private static final String[] MESSAGES = {
        "", "AAA'", "AAA'AAA'", "AAA'BBB'", "AAA'BBB'CCC'DDD'DDD'EEE'", "FFF'FFF'"};

    /** What the tables are can be seen of what they do to messages. */
    private static void match(Desk desk, StringBuilder all) {
        for (int type = 0; type < 4; type++) {
            desk.wipe();
            StringBuilder text = new StringBuilder("UNB'");
            int reference = 0;
            for (String tags : MESSAGES) {
                reference++;
                text.append("UNH+").append(reference).append("+").append(type).append("'").append(tags);
                text.append("UNT+").append(2 + tags.length() / 4).append("+").append(reference).append("'");
            }
            Check.type(desk, text + "UNZ'");
            say(all, desk::read);
            for (int m = 0; m < MESSAGES.length; m++) {
                all.append(Check.verdict(desk, m)).append(' ');
            }
        }
    }

    private static String matched(Desk desk) {
        StringBuilder all = new StringBuilder();
        match(desk, all);
        return all.toString();
    }

    /** What is open, and how many items there are, can be seen of what can be added. */
    private static String added(Desk desk) {
        StringBuilder all = new StringBuilder();
        for (int k = 0; k < 4; k++) {
            int type = k;
            say(all, () -> desk.slot(type, Check.tag("EEE"), true, 1));
            for (int n = 0; n < 4; n++) {
                say(all, () -> desk.close(type));
            }
            say(all, () -> desk.slot(type, Check.tag("FFF"), false, 2));
        }
        match(desk, all);
        for (int k = 0; k < 4; k++) {
            int type = k;
            say(all, () -> desk.clear(type));
            say(all, () -> desk.clear(type));
        }
        return all.toString();
    }

    /** How deep one stands can be seen of how many groups can be opened. */
    private static String opened(Desk desk) {
        StringBuilder all = new StringBuilder();
        for (int k = 0; k < 4; k++) {
            int type = k;
            for (int n = 0; n < 4; n++) {
                say(all, () -> desk.slot(type, Check.tag("EEE"), true, 1));
                say(all, () -> desk.open(type, false, 2));
            }
        }
        match(desk, all);
        return all.toString();
    }

    private static void same(State state, String what, Function<Desk, Object> call, Object want,
            Function<Desk, String> look) {
        Desk without = state.desk();
        Desk with = state.desk();
        for (int n = 0; n < 2; n++) {
            Check.due(state.name + ": " + what, Check.answer(() -> call.apply(with)), want);
        }
        Check.due(state.name + ", behind " + what, look.apply(with), look.apply(without));
    }

    private static void refused(State state, String what, Function<Desk, Object> call, Object want) {
        same(state, what, call, want, RefusedTest::fault);
        refusedRead(state, what, call, want);
    }

    /** As refused, but for what fault() tells. */
    private static void refusedRead(State state, String what, Function<Desk, Object> call, Object want) {
        same(state, what, call, want, RefusedTest::seen);
        same(state, what, call, want, d -> read(d, state.rest));
        same(state, what, call, want, RefusedTest::matched);
        same(state, what, call, want, RefusedTest::added);
        same(state, what, call, want, RefusedTest::opened);
    }

    private static void wrongBytes(State state) {
        for (long wrong : new long[] {1, 31, 127, 128, 255}) {
            refused(state, "type " + wrong, d -> d.type(wrong), false);
            refused(state, "type it behind others", d -> d.type(Check.part("'ABCDEF") << 8 | wrong), false);
            refused(state, "type it ahead of others", d -> d.type(wrong << 56 | Check.part("'")), false);
        }
    }

    private static void wrongTypes(State state) {
        for (int type : new int[] {-1, 4}) {
            refused(state, "slot type " + type, d -> d.slot(type, AAA, true, 1), Check.ARGUMENT);
            refused(state, "open type " + type, d -> d.open(type, true, 1), Check.ARGUMENT);
            refused(state, "close type " + type, d -> d.close(type), Check.ARGUMENT);
            refused(state, "clear type " + type, d -> d.clear(type), Check.ARGUMENT);
        }
    }

    private static void wrongMosts(State state) {
        for (int most : new int[] {0, 100}) {
            for (int k = 0; k < 4; k++) {
                int type = k;
                refused(state, "slot most " + most, d -> d.slot(type, AAA, true, most), Check.ARGUMENT);
                refused(state, "open most " + most, d -> d.open(type, true, most), Check.ARGUMENT);
            }
        }
    }

    private static void wrongTags(State state) {
        for (int tag : new int[] {0, AAA - 1, Check.tag("AA["), AAA + (1 << 24), Check.tag("UNB"), Check.tag("UNT")}) {
            for (int k = 0; k < 4; k++) {
                int type = k;
                refused(state, "slot tag " + tag, d -> d.slot(type, tag, true, 1), Check.ARGUMENT);
            }
        }
    }

    private static void emptyTables(State state) {
        refused(state, "close an empty table's own", d -> d.close(3), false);
        refused(state, "clear an empty table", d -> d.clear(3), false);
    }

    private static void triggerDue(State state) {
        refused(state, "slot without must", d -> d.slot(0, AAA, false, 1), Check.STATE);
        refused(state, "slot with most 2", d -> d.slot(0, AAA, true, 2), Check.STATE);
        refused(state, "open first in a group", d -> d.open(0, true, 1), Check.STATE);
        refused(state, "close without an item", d -> d.close(0), false);
    }

    private static void threeOpen(State state) {
        refused(state, "open a fourth one", d -> d.open(1, true, 1), Check.STATE);
        refused(state, "open a fourth one", d -> d.open(1, false, 99), Check.STATE);
    }

    private static void tableFull(State state) {
        refused(state, "slot as the 25th", d -> d.slot(2, AAA, true, 1), Check.STATE);
        refused(state, "slot as the 25th", d -> d.slot(2, AAA, false, 99), Check.STATE);
        refused(state, "open as the 25th", d -> d.open(2, true, 1), Check.STATE);
    }

    private static void noInterchange(State state) {
        for (int i : new int[] {-2, -1, 0, 3}) {
            refused(state, "interchange " + i, d -> d.interchange(i), Check.STATE);
            refused(state, "message " + i, d -> d.message(i, 0), Check.STATE);
            refused(state, "group " + i, d -> d.group(i), Check.STATE);
            refused(state, "segment " + i, d -> d.segment(i, -1, 0, 0), Check.STATE);
            refused(state, "print " + i, d -> d.print(i), Check.STATE);
            refused(state, "report " + i, d -> d.report(i), Check.STATE);
        }
    }

    private static void noneSuch(State state) {
        for (int i : new int[] {-3, 2000, Integer.MIN_VALUE, Integer.MAX_VALUE}) {
            refused(state, "interchange " + i, d -> d.interchange(i), -1);
            refused(state, "message " + i, d -> d.message(i, 0), -1);
            refused(state, "message 0 " + i, d -> d.message(0, i), -1);
            refused(state, "group " + i, d -> d.group(i), -1);
            refused(state, "segment " + i, d -> d.segment(i, -1, 0, 0), -1);
            refused(state, "segment 3 " + i, d -> d.segment(3, i, -1, 0), -1);
            refused(state, "segment 3 0 " + i, d -> d.segment(3, 0, i, -1), -1);
            refused(state, "segment 3 0 0 " + i, d -> d.segment(3, 0, 0, i), -1);
            refused(state, "print " + i, d -> d.print(i), -1);
            refused(state, "report " + i, d -> d.report(i), -1);
        }
    }

    private static void reads() {
        refusedRead(fresh(), "read", Desk::read, Check.ARGUMENT);
        refusedRead(typed(), "read", Desk::read, Check.ARGUMENT);
        refusedRead(read(), "read", Desk::read, Check.ARGUMENT);
        refusedRead(full(), "read", Desk::read, Check.ARGUMENT);
        refusedRead(closed(), "read", Desk::read, Check.ARGUMENT);
        refusedRead(unfit(), "read", Desk::read, Check.UNSUPPORTED);
        // Segments with groups and messages that are not in envelopes, behind an interchange.
        State spoilt = new State("spoilt", d -> {
            tables(d);
            readOne(d);
            Check.type(d, "UNB+++S'UNG'UNH+N+1'AAA+x:y'UNT+3+N'UNE'UNH+O+1'UNT+2+O'");
        }, "UNZ+1+S'");
        Function<Desk, String> rest = d -> {
            d.wipe();
            return read(d, WHOLE);
        };
        same(spoilt, "read", Desk::read, Check.UNSUPPORTED, RefusedTest::seen);
        same(spoilt, "read", Desk::read, Check.UNSUPPORTED, rest);
        same(spoilt, "read", Desk::read, Check.UNSUPPORTED, RefusedTest::matched);
        same(spoilt, "read", Desk::read, Check.UNSUPPORTED, RefusedTest::added);
        same(spoilt, "read", Desk::read, Check.UNSUPPORTED, RefusedTest::opened);
    }
}
