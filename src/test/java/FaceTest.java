import java.lang.reflect.Constructor;
import java.lang.reflect.Field;
import java.lang.reflect.Method;
import java.lang.reflect.Modifier;
import java.util.ArrayList;
import java.util.List;
import java.util.TreeSet;

/** The class has the members of the document's public face, and no other that is not private. */
public final class FaceTest {
    private static final List<String> FACE = List.of(
            "public static final int NONE",
            "public static final int FULL",
            "public RedoShelf()",
            "public boolean put(int,int,int)",
            "public boolean revoke(int)",
            "public boolean direct(int,int,int)",
            "public int commit()",
            "public int checkpoint()",
            "public int recover()",
            "public int step(int)",
            "public int crash(int,int)",
            "public int get(int,int)",
            "public int read(int,int)",
            "public int stored(int,int)",
            "public int cached()",
            "public int state()",
            "public int number()",
            "public int used()",
            "public int changed(int)",
            "public int left()");

    public static void main(String[] args) {
        Check check = new Check("FaceTest");
        TreeSet<String> found = new TreeSet<>(openMembers());
        TreeSet<String> due = new TreeSet<>(FACE);
        for (String member : due) {
            check.due("has " + member, found.contains(member), true);
        }
        for (String member : found) {
            check.due("the document has " + member, due.contains(member), true);
        }
        int modifiers = RedoShelf.class.getModifiers();
        check.due("public", Modifier.isPublic(modifiers), true);
        check.due("final", Modifier.isFinal(modifiers), true);
        check.due("NONE", RedoShelf.NONE, -1);
        check.due("FULL", RedoShelf.FULL, -2);
        for (Class<?> inside : RedoShelf.class.getDeclaredClasses()) {
            check.due(inside.getName() + " is static", Modifier.isStatic(inside.getModifiers()), true);
            check.due(inside.getName() + " is public", Modifier.isPublic(inside.getModifiers()), false);
        }
        duePrivateNamesOfTheirOwn(check);
        check.end();
    }

    /** No private method bears the name of a public one. */
    private static void duePrivateNamesOfTheirOwn(Check check) {
        TreeSet<String> open = new TreeSet<>();
        for (Method method : RedoShelf.class.getMethods()) {
            open.add(method.getName());
        }
        List<Method> others = new ArrayList<>();
        for (Method method : RedoShelf.class.getDeclaredMethods()) {
            if (Modifier.isPrivate(method.getModifiers())) {
                others.add(method);
            }
        }
        for (Class<?> inside : RedoShelf.class.getDeclaredClasses()) {
            others.addAll(List.of(inside.getDeclaredMethods()));
        }
        for (Method method : others) {
            check.due(method + " has the name of a public one", open.contains(method.getName()), false);
        }
    }

    private static List<String> openMembers() {
        List<String> members = new ArrayList<>();
        for (Field field : RedoShelf.class.getDeclaredFields()) {
            if (!Modifier.isPrivate(field.getModifiers())) {
                members.add(Modifier.toString(field.getModifiers()) + " " + field.getType() + " " + field.getName());
            }
        }
        for (Constructor<?> made : RedoShelf.class.getDeclaredConstructors()) {
            if (!Modifier.isPrivate(made.getModifiers())) {
                members.add(made.toString());
            }
        }
        for (Method method : RedoShelf.class.getDeclaredMethods()) {
            if (!Modifier.isPrivate(method.getModifiers())) {
                members.add(method.toString().replace("RedoShelf.", ""));
            }
        }
        return members;
    }
}
