import java.lang.reflect.Constructor;
import java.lang.reflect.Field;
import java.lang.reflect.Method;
import java.lang.reflect.Modifier;
import java.util.Set;
import java.util.TreeSet;

/** The public face: what the document has, and nothing else that is not private. */
public final class FaceTest {
    private static final Check CHECK = new Check();

    public static void main(String[] args) {
        CHECK.about("the face");
        Set<String> want = Set.of(
            "public static final long FinderBook.NULL", "public static final long FinderBook.NONE",
            "public FinderBook()", "public boolean FinderBook.type(char)", "public void FinderBook.scrap()",
            "public int FinderBook.declare()", "public int FinderBook.names()", "public int FinderBook.define(boolean)",
            "public int FinderBook.shape(int,int)", "public int FinderBook.part(int,int)",
            "public boolean FinderBook.fill(int,int)", "public boolean FinderBook.blank(int)",
            "public boolean FinderBook.save(int)", "public boolean FinderBook.remove(int)",
            "public boolean FinderBook.arg(int)", "public int FinderBook.run(int)", "public int FinderBook.results()",
            "public int FinderBook.result(int)", "public long FinderBook.value(int,int)", "public int FinderBook.size()");
        Set<String> got = face();
        for (String member : want) {
            CHECK.due("has " + member, got.contains(member), true);
        }
        for (String member : got) {
            CHECK.due("may have " + member, want.contains(member), true);
        }
        int modifiers = FinderBook.class.getModifiers();
        CHECK.due("public and final", Modifier.isPublic(modifiers) && Modifier.isFinal(modifiers), true);
        for (Class<?> inside : FinderBook.class.getDeclaredClasses()) {
            CHECK.due("static " + inside, Modifier.isStatic(inside.getModifiers()), true);
            CHECK.due("not public " + inside, Modifier.isPublic(inside.getModifiers()), false);
        }
        CHECK.end();
    }

    private static Set<String> face() {
        Set<String> members = new TreeSet<>();
        for (Field field : FinderBook.class.getDeclaredFields()) {
            addIfSeen(members, field.getModifiers(), field.toString());
        }
        for (Method method : FinderBook.class.getDeclaredMethods()) {
            addIfSeen(members, method.getModifiers(), method.toString());
        }
        for (Constructor<?> constructor : FinderBook.class.getDeclaredConstructors()) {
            addIfSeen(members, constructor.getModifiers(), constructor.toString());
        }
        return members;
    }

    private static void addIfSeen(Set<String> members, int modifiers, String text) {
        if (!Modifier.isPrivate(modifiers)) {
            members.add(text);
        }
    }
}
