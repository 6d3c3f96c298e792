import java.lang.management.ManagementFactory;
import java.lang.reflect.Array;
import java.lang.reflect.Field;
import java.lang.reflect.Modifier;
import java.util.ArrayDeque;
import java.util.Collections;
import java.util.IdentityHashMap;
import java.util.Set;

/** All calls of a run live in one room: what an object holds is made with it, and no call but a throw makes more. */
public final class RoomTest {
    private static final long[] FULL =
            parts("UNA!$.# %UNB$$$?%UNG%UNH$M$1%ABC$" + "?".repeat(350) + "%UNT$3$M%UNE%UNZ%");
    private static final long[] MANY = parts("UNB'" + "UNH+M+1'UNT+2+M'".repeat(19) + "UNZ'");

    public static void main(String[] args) throws IllegalAccessException {
        fewObjects();
        noneMoreBehindCalls();
        noneMadeByCalls();
        Check.end();
    }

    /** The objects and arrays that can be reached from one. */
    private static Set<Object> reached(Object from) throws IllegalAccessException {
        Set<Object> found = Collections.newSetFromMap(new IdentityHashMap<>());
        ArrayDeque<Object> open = new ArrayDeque<>();
        open.add(from);
        while (!open.isEmpty()) {
            Object next = open.remove();
            if (found.add(next)) {
                if (next instanceof Object[] row) {
                    for (Object each : row) {
                        open.add(each);
                    }
                } else if (!next.getClass().isArray()) {
                    addFields(next, open);
                }
            }
        }
        return found;
    }

    private static void addFields(Object of, ArrayDeque<Object> open) throws IllegalAccessException {
        for (Field f : of.getClass().getDeclaredFields()) {
            if (!Modifier.isStatic(f.getModifiers()) && !f.getType().isPrimitive()) {
                f.setAccessible(true);
                open.add(f.get(of));
            }
        }
    }

    private static int fieldsAndElements(Set<Object> objects) {
        int sum = 0;
        for (Object each : objects) {
            sum += each.getClass().isArray() ? Array.getLength(each) : each.getClass().getDeclaredFields().length;
        }
        return sum;
    }

    private static void fewObjects() throws IllegalAccessException {
        Set<Object> objects = reached(new InterchangeDesk());
        Check.due("few objects", objects.size() > 10 && objects.size() <= 150, true);
        int sum = fieldsAndElements(objects);
        Check.due("few fields and elements", sum > 1000 && sum <= 6000, true);
    }

    private static long[] parts(String text) {
        long[] parts = new long[(text.length() + 7) / 8];
        for (int k = 0; k < parts.length; k++) {
            parts[k] = Check.part(text.substring(8 * k, Math.min(text.length(), 8 * k + 8)));
        }
        return parts;
    }

    private static void typeInto(InterchangeDesk desk, long[] parts) {
        for (long part : parts) {
            desk.type(part);
        }
    }

    /** Each call that makes something, or asks for it; none of them throws. */
    private static int useAll(InterchangeDesk desk) {
        int sum = desk.clear(1) ? 1 : 0;
        sum += desk.slot(1, Check.tag("ABC"), false, 2) + desk.open(1, false, 9);
        sum += desk.slot(1, Check.tag("DEF"), true, 1) + (desk.close(1) ? 1 : 0);
        desk.wipe();
        typeInto(desk, FULL);
        sum += desk.read() + desk.print(-1) + desk.report(-1) + desk.print(5) + desk.report(5) + desk.fault();
        typeInto(desk, MANY);
        sum += desk.read() + desk.interchange(3) + desk.message(18, 0) + desk.group(0) + desk.segment(0, 0, 0, 0);
        return sum + desk.length() + desk.print(-1) + desk.report(-1);
    }

    private static void noneMoreBehindCalls() throws IllegalAccessException {
        InterchangeDesk desk = new InterchangeDesk();
        Set<Object> before = reached(desk);
        useAll(desk);
        Check.due("read", Check.answer(desk::read), Check.ARGUMENT);
        desk.type(Check.part("ABC'"));
        Check.due("read", Check.answer(desk::read), Check.UNSUPPORTED);
        Set<Object> behind = reached(desk);
        Check.due("how many", behind.size(), before.size());
        Check.due("the same ones", before.containsAll(behind), true);
    }

    private static void noneMadeByCalls() {
        com.sun.management.ThreadMXBean threads =
                (com.sun.management.ThreadMXBean) ManagementFactory.getThreadMXBean();
        int rounds = 200;
        InterchangeDesk[] desks = new InterchangeDesk[rounds + 1];
        for (int k = 0; k <= rounds; k++) {
            desks[k] = new InterchangeDesk();
        }
        int sum = useAll(desks[rounds]);
        long before = threads.getCurrentThreadAllocatedBytes();
        int sums = 0;
        for (int k = 0; k < rounds; k++) {
            sums += useAll(desks[k]);
        }
        long made = threads.getCurrentThreadAllocatedBytes() - before;
        Check.due("all answered alike", sums, rounds * sum);
        // One object in each round would have 16 bytes at least; the machine's own work may want a few.
        Check.due("bytes made: " + made + " are few", made < 8 * rounds, true);
    }
}
