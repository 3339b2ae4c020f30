import java.lang.reflect.Constructor;
import java.lang.reflect.Field;
import java.lang.reflect.Member;
import java.lang.reflect.Method;
import java.lang.reflect.Modifier;
import java.util.Arrays;
import java.util.TreeSet;

/** The public face: what the document lists, with its types, and no other visible member. */
public final class FaceTest {
    private static final String[] FACE = {
        "public static final long NullKinds.NOTHING",
        "public NullKinds()",
        "public int NullKinds.step(int,int,int,int,int)",
        "public int NullKinds.clear()",
        "public int NullKinds.run(int,int)",
        "public long NullKinds.ran(int)",
        "public int NullKinds.variable(int,int)",
        "public long NullKinds.number(int)",
        "public int NullKinds.seen(int,int)",
        "public int NullKinds.had(int)",
        "public int NullKinds.may(int,int)",
        "public int NullKinds.faults(int)",
        "public int NullKinds.cast(int)",
        "public int NullKinds.all(int)",
        "public int NullKinds.mean() throws java.lang.ArithmeticException",
    };

    public static void main(String[] args) {
        Check check = new Check("FaceTest");
        TreeSet<String> found = new TreeSet<>();
        for (Field f : NullKinds.class.getDeclaredFields()) {
            addVisible(found, f, f.toGenericString());
        }
        for (Constructor<?> c : NullKinds.class.getDeclaredConstructors()) {
            addVisible(found, c, c.toGenericString());
        }
        for (Method m : NullKinds.class.getDeclaredMethods()) {
            addVisible(found, m, m.toGenericString());
        }
        TreeSet<String> want = new TreeSet<>(Arrays.asList(FACE));
        for (String member : want) {
            check.holds("the face has " + member, found.contains(member));
        }
        for (String member : found) {
            check.holds("the document has " + member, want.contains(member));
        }
        int modifiers = NullKinds.class.getModifiers();
        check.holds("the class is public and final", Modifier.isPublic(modifiers) && Modifier.isFinal(modifiers));
        check.end();
    }

    private static void addVisible(TreeSet<String> found, Member member, String text) {
        if (!Modifier.isPrivate(member.getModifiers()) && !member.isSynthetic()) {
            found.add(text);
        }
    }
}
