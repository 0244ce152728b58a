import java.lang.reflect.Constructor;
import java.lang.reflect.Field;
import java.lang.reflect.Member;
import java.lang.reflect.Method;
import java.lang.reflect.Modifier;
import java.util.Arrays;
import java.util.TreeSet;

/** The class shows the document's face and nothing else. */
public final class FaceTest {
    public static void main(String[] args) {
        Checks checks = new Checks();
        TreeSet<String> want = new TreeSet<>(Arrays.asList(
                "public ArcCache(int)",
                "public void init()",
                "public int read(int)",
                "public boolean write(int,int)",
                "public int flush()",
                "public int whichList(int)",
                "public int at(int,int)",
                "public int length(int)",
                "public int target()",
                "public int hits()",
                "public int misses()",
                "public int store(int)",
                "public boolean isDirty(int)",
                "public int gone()"));
        checks.due("the face", visibleMembers(), want);
        int modifiers = ArcCache.class.getModifiers();
        checks.due("the class is public", Modifier.isPublic(modifiers), true);
        checks.due("the class is final", Modifier.isFinal(modifiers), true);
        checks.end();
    }

    private static TreeSet<String> visibleMembers() {
        TreeSet<String> found = new TreeSet<>();
        for (Constructor<?> constructor : ArcCache.class.getDeclaredConstructors()) {
            addIfVisible(found, constructor, constructor.toGenericString());
        }
        for (Method method : ArcCache.class.getDeclaredMethods()) {
            addIfVisible(found, method, method.toGenericString());
        }
        for (Field field : ArcCache.class.getDeclaredFields()) {
            addIfVisible(found, field, field.toGenericString());
        }
        return found;
    }

    private static void addIfVisible(TreeSet<String> found, Member member, String text) {
        if (!Modifier.isPrivate(member.getModifiers()) && !member.isSynthetic()) {
            found.add(text.replace("ArcCache.", ""));
        }
    }
}
