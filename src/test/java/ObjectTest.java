/** "An object is used for at most 512 calls after it has been made": up to the last one it answers as due. */
public final class ObjectTest {
    private static final String ONE = "UNB'UNH+M+1'ABC+x'UNT+3+M'UNZ'";

    public static void main(String[] args) {
        typesToTheLastCall();
        tablesToTheLastCall();
        readsToTheLastCall();
        refusedReadsToTheLastCall();
        objectsAreApart();
        Check.end();
    }

    private static void typesToTheLastCall() {
        Desk desk = new Desk();
        for (int call = 1; call < Desk.CALLS_MOST; call++) {
            Check.due("call " + call, desk.type('x'), call <= 400);
        }
        Check.due("the last call", desk.length(), 400);
        Desk wiped = new Desk();
        for (int call = 1; call < Desk.CALLS_MOST; call += 2) {
            wiped.wipe();
            Check.due("call " + (call + 1), wiped.type(Check.part("ABCDEFGH")), true);
        }
    }

    private static void tablesToTheLastCall() {
        Desk desk = new Desk();
        for (int round = 0; round < 128; round++) {
            int type = round % 4;
            Check.due("open", desk.open(type, false, 9), 1);
            Check.due("trigger", desk.slot(type, Check.tag("AAA"), true, 1), 2);
            Check.due("close", desk.close(type), true);
            Check.due("clear", desk.clear(type), true);
        }
    }

    private static void readsToTheLastCall() {
        Desk desk = new Desk();
        desk.slot(1, Check.tag("ABC"), true, 1);
        for (int read = 0; read < 102; read++) {
            Check.type(desk, ONE);
            Check.due("read " + read, desk.read(), 1);
        }
        Check.due("the last call", desk.report(-1), "UCI++3'UCM+M+0'".length());
    }

    private static void refusedReadsToTheLastCall() {
        Desk desk = new Desk();
        Check.type(desk, ONE);
        Check.due("read", desk.read(), 1);
        for (int round = 0; round < 126; round++) {
            Check.due("type", desk.type(Check.part("ABC'")), true);
            Check.due("read", Check.answer(desk::read), Check.UNSUPPORTED);
            Check.due("read", Check.answer(desk::read), Check.UNSUPPORTED);
            desk.wipe();
        }
        Check.due("read", Check.answer(desk::read), Check.ARGUMENT);
        Check.due("fault", desk.fault(), 0);
        Check.due("the last call", desk.print(-1), ONE.length());
    }

    private static void objectsAreApart() {
        Desk one = new Desk();
        Desk other = new Desk();
        Check.table(one, 1, "ABC! (2");
        Check.type(one, ONE);
        Check.due("length of the other", other.length(), 0);
        Check.due("slot of the other", other.slot(1, Check.tag("AAA"), false, 2), 1);
        Check.due("close of the other", other.close(1), false);
        Check.due("read", one.read(), 1);
        Check.due("print of the other", Check.answer(() -> other.print(-1)), Check.STATE);
        Check.due("read of the other", Check.answer(other::read), Check.ARGUMENT);
        Check.due("fault of the other", other.fault(), 0);
        Check.due("fault", one.fault(), -1);
        Check.due("read of the other", Check.read(other, "UNB+++R'UNH+N+1'UNT+2+N'UNZ+1+R'"), 1);
        Check.due("print", Check.printOf(one), ONE);
        Check.due("report", Check.reportOf(one), "UCI++3'UCM+M+0'");
        Check.due("report of the other", Check.reportOf(other), "UCI+R+0'UCM+N+0'");
        Check.due("clear of the other", other.clear(1), true);
        Check.due("slot", one.slot(1, Check.tag("AAA"), true, 1), 3);
    }
}
