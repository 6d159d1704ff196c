import java.lang.reflect.Constructor;
import java.lang.reflect.Field;
import java.lang.reflect.Method;
import java.lang.reflect.Modifier;
import java.util.Set;
import java.util.TreeSet;

/** The class shows the document's face and nothing else. */
public final class FaceTest {
    private static final Set<String> DUE = new TreeSet<>(Set.of(
        "public static final int JournalShelf.REFUSED",
        "public static final int JournalShelf.FULL",
        "public JournalShelf()",
        "public int JournalShelf.change(int,int)",
        "public int JournalShelf.commit()",
        "public int JournalShelf.forget()",
        "public int JournalShelf.flush()",
        "public int JournalShelf.crash(int,int)",
        "public int JournalShelf.get(int)",
        "public int JournalShelf.torn()",
        "public int JournalShelf.count(int)"));

    public static void main(String[] args) {
        Set<String> shown = new TreeSet<>();
        for (Field field : JournalShelf.class.getDeclaredFields()) {
            note(shown, field.getModifiers(), field.toString());
        }
        for (Method method : JournalShelf.class.getDeclaredMethods()) {
            note(shown, method.getModifiers(), method.toString());
        }
        for (Constructor<?> constructor : JournalShelf.class.getDeclaredConstructors()) {
            note(shown, constructor.getModifiers(), constructor.toString());
        }
        boolean right = shown.equals(DUE)
            && JournalShelf.class.getModifiers() == (Modifier.PUBLIC | Modifier.FINAL);
        System.out.println(right ? "the face is as due" : "the face is " + shown + ", due is " + DUE);
        if (!right) {
            System.exit(1);
        }
    }

    private static void note(Set<String> shown, int modifiers, String text) {
        if (!Modifier.isPrivate(modifiers)) {
            shown.add(text);
        }
    }
}
