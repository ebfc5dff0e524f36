import java.lang.reflect.Constructor;
import java.lang.reflect.Field;
import java.lang.reflect.Method;
import java.lang.reflect.Modifier;
import java.util.Arrays;
import java.util.TreeSet;

/** The public face: just what the document has. */
public final class FaceTest {
    private static final String[] DUE = {
        "field public static final int NONE",
        "constructor public ()",
        "method public int type(int) UnsupportedOperationException",
        "method public void cut(int) IllegalArgumentException",
        "method public long digest()",
        "method public long keep() UnsupportedOperationException",
        "method public void tell(int, long) IllegalArgumentException NoSuchElementException UnsupportedOperationException",
        "method public void untell(int) IllegalArgumentException NoSuchElementException UnsupportedOperationException",
        "method public void learn(long, long) UnsupportedOperationException",
        "method public void pin(int, long) IllegalArgumentException",
        "method public long tag(int) IllegalArgumentException",
        "method public long look(long) NoSuchElementException",
        "method public int length(long)",
        "method public int byteOf(long, int) NoSuchElementException IndexOutOfBoundsException",
        "method public int count(int) IllegalArgumentException",
        "method public int journal(int) IndexOutOfBoundsException",
        "method public void sync()",
        "method public int crash(int, int) IllegalArgumentException",
        "method public int collect()",
    };

    public static void main(String[] args) {
        TreeSet<String> got = new TreeSet<>();
        for (Field field : BlobJournal.class.getDeclaredFields()) {
            if (!Modifier.isPrivate(field.getModifiers())) {
                got.add("field " + Modifier.toString(field.getModifiers()) + " " + field.getType() + " " + field.getName());
            }
        }
        for (Constructor<?> made : BlobJournal.class.getDeclaredConstructors()) {
            if (!Modifier.isPrivate(made.getModifiers())) {
                got.add("constructor " + Modifier.toString(made.getModifiers()) + " "
                    + list(made.getParameterTypes()) + thrown(made.getExceptionTypes()));
            }
        }
        for (Method method : BlobJournal.class.getDeclaredMethods()) {
            if (!Modifier.isPrivate(method.getModifiers())) {
                got.add("method " + Modifier.toString(method.getModifiers()) + " " + method.getReturnType() + " "
                    + method.getName() + list(method.getParameterTypes()) + thrown(method.getExceptionTypes()));
            }
        }
        TreeSet<String> due = new TreeSet<>(Arrays.asList(DUE));
        Check.sameText("the face", String.join("\n", got), String.join("\n", due));
        int modifiers = BlobJournal.class.getModifiers();
        Check.sameText("the class", Modifier.toString(modifiers), "public final");
        Check.same("NONE", BlobJournal.NONE, -1);
        namesOfPrivateMethods();
        Check.end();
    }

    private static void namesOfPrivateMethods() {
        for (Method method : BlobJournal.class.getDeclaredMethods()) {
            for (Method other : BlobJournal.class.getMethods()) {
                if (Modifier.isPrivate(method.getModifiers()) && method.getName().equals(other.getName())) {
                    Check.complain("a private method is named " + method.getName());
                }
            }
        }
    }

    private static String list(Class<?>[] types) {
        return Arrays.toString(types).replace('[', '(').replace(']', ')');
    }

    private static String thrown(Class<?>[] types) {
        StringBuilder text = new StringBuilder();
        for (Class<?> type : types) {
            text.append(' ').append(type.getSimpleName());
        }
        return text.toString();
    }
}
