import java.lang.reflect.Constructor;
import java.lang.reflect.Field;
import java.lang.reflect.Method;
import java.lang.reflect.Modifier;
import java.util.Arrays;
import java.util.TreeSet;

/** The public face: the constant, the constructor and the fifteen methods, and nothing more. */
public final class FaceTest {
    public static void main(String[] args) {
        Class<?> face = InterchangeDesk.class;
        TreeSet<String> found = new TreeSet<>();
        for (Field f : face.getDeclaredFields()) {
            if (!Modifier.isPrivate(f.getModifiers())) {
                found.add(f.toString());
            }
        }
        for (Constructor<?> c : face.getDeclaredConstructors()) {
            found.add(c.toString());
        }
        for (Method m : face.getDeclaredMethods()) {
            if (!Modifier.isPrivate(m.getModifiers()) && !m.isSynthetic()) {
                found.add(m.toString().replace("java.lang.", ""));
            }
        }
        String desk = "InterchangeDesk.";
        TreeSet<String> due = new TreeSet<>(Arrays.asList(
                "public static final int " + desk + "NONE",
                "public InterchangeDesk()",
                "public boolean " + desk + "type(long)",
                "public void " + desk + "wipe()",
                "public int " + desk + "length()",
                "public int " + desk + "slot(int,int,boolean,int)"
                        + " throws IllegalArgumentException,IllegalStateException",
                "public int " + desk + "open(int,boolean,int)"
                        + " throws IllegalArgumentException,IllegalStateException",
                "public boolean " + desk + "close(int) throws IllegalArgumentException",
                "public boolean " + desk + "clear(int) throws IllegalArgumentException",
                "public int " + desk + "read()"
                        + " throws IllegalArgumentException,UnsupportedOperationException",
                "public int " + desk + "fault()",
                "public int " + desk + "interchange(int) throws IllegalStateException",
                "public int " + desk + "message(int,int) throws IllegalStateException",
                "public int " + desk + "group(int) throws IllegalStateException",
                "public int " + desk + "segment(int,int,int,int) throws IllegalStateException",
                "public int " + desk + "print(int) throws IllegalStateException",
                "public int " + desk + "report(int) throws IllegalStateException"));
        Check.due("the face", found, due);
        Check.due("NONE", InterchangeDesk.NONE, -1);
        Check.due("final", Modifier.isFinal(face.getModifiers()), true);
        Check.end();
    }
}
