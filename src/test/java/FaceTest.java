import java.lang.reflect.Constructor;
import java.lang.reflect.Field;
import java.lang.reflect.Method;
import java.lang.reflect.Modifier;
import java.util.Set;
import java.util.TreeSet;

/** The public face: its members and no other. */
public final class FaceTest {
    public static void main(String[] args) {
        Set<String> found = new TreeSet<>();
        for (Method m : TokenFrames.class.getDeclaredMethods()) {
            if (!Modifier.isPrivate(m.getModifiers()) && !m.isSynthetic()) {
                found.add(m.toString());
            }
        }
        for (Constructor<?> c : TokenFrames.class.getDeclaredConstructors()) {
            if (!Modifier.isPrivate(c.getModifiers()) && !c.isSynthetic()) {
                found.add(c.toString());
            }
        }
        for (Field f : TokenFrames.class.getDeclaredFields()) {
            if (!Modifier.isPrivate(f.getModifiers()) && !f.isSynthetic()) {
                found.add(f.toString());
            }
        }
        String of = "TokenFrames.";
        Set<String> due = new TreeSet<>(Set.of(
                "public static final int " + of + "NONE",
                "public TokenFrames()",
                "public int " + of + "feed(int,int,int,int,int) throws "
                        + "java.lang.IllegalArgumentException,java.lang.UnsupportedOperationException",
                "public int " + of + "read()",
                "public int " + of + "run(int,int,int,int) throws "
                        + "java.lang.IllegalStateException,java.lang.IllegalArgumentException",
                "public int " + of + "value()",
                "public int " + of + "count(int) throws java.lang.IndexOutOfBoundsException",
                "public int " + of + "definition(int,int) throws java.lang.IndexOutOfBoundsException",
                "public void " + of + "clear()"));
        if (!found.equals(due)) {
            System.out.println("the face is " + found + ", due is " + due);
            Check.equal("the face", 1, 0);
        }
        Check.equal("final", Modifier.isFinal(TokenFrames.class.getModifiers()) ? 1 : 0, 1);
        Check.equal("NONE", TokenFrames.NONE, -1);
        Check.end();
    }
}
