import java.lang.reflect.Constructor;
import java.lang.reflect.Field;
import java.lang.reflect.Method;
import java.lang.reflect.Modifier;
import java.util.Set;
import java.util.TreeSet;

/** The public face: the document's constants, constructor and methods, and nothing else. */
public final class FaceTest {
    private static final Due DUE = new Due("FaceTest");

    public static void main(String[] args) {
        Class<?> face = MemberShelf.class;
        DUE.holds("public and final", Modifier.isPublic(face.getModifiers()) && Modifier.isFinal(face.getModifiers()));
        constants();
        members();
        classesInside();
        DUE.end();
    }

    private static void constants() {
        DUE.is("UNKNOWN", MemberShelf.UNKNOWN, -1);
        DUE.is("BAD_VALUE", MemberShelf.BAD_VALUE, -2);
        DUE.is("FULL", MemberShelf.FULL, -3);
        DUE.is("NOT_POSSIBLE", MemberShelf.NOT_POSSIBLE, -4);
        DUE.is("NONE", MemberShelf.NONE, -5);
        DUE.is("DIRECTORY_FULL", MemberShelf.DIRECTORY_FULL, -6);
        DUE.is("TAKEN", MemberShelf.TAKEN, -7);
    }

    private static void members() {
        Set<String> seen = new TreeSet<>();
        for (Field field : MemberShelf.class.getDeclaredFields()) {
            if (!Modifier.isPrivate(field.getModifiers())) {
                seen.add(field.getName());
            }
        }
        for (Constructor<?> constructor : MemberShelf.class.getDeclaredConstructors()) {
            seen.add("MemberShelf/" + constructor.getParameterCount());
        }
        for (Method method : MemberShelf.class.getDeclaredMethods()) {
            if (!Modifier.isPrivate(method.getModifiers())) {
                seen.add(method.getName() + "/" + method.getParameterCount());
            }
        }
        Set<String> due = new TreeSet<>(Set.of("UNKNOWN", "BAD_VALUE", "FULL", "NOT_POSSIBLE", "NONE",
            "DIRECTORY_FULL", "TAKEN", "MemberShelf/0", "add/3", "replace/3", "remove/1", "rename/2", "alias/2",
            "addAll/0", "squeeze/0", "makeAnew/1", "type/1", "clearPad/0", "undo/0", "keep/0", "restore/0", "entry/2",
            "named/1", "block/2", "at/1", "fits/1", "beginning/2", "count/1"));
        DUE.holds("the face is " + seen, seen.equals(due));
    }

    private static void classesInside() {
        Set<String> face = new TreeSet<>();
        for (Method method : MemberShelf.class.getMethods()) {
            face.add(method.getName());
        }
        for (Class<?> inside : MemberShelf.class.getDeclaredClasses()) {
            DUE.holds(inside + " is static", Modifier.isStatic(inside.getModifiers()));
            DUE.holds(inside + " is not public",
                !Modifier.isPublic(inside.getModifiers()) && !Modifier.isProtected(inside.getModifiers()));
            for (Method method : inside.getDeclaredMethods()) {
                DUE.holds(method + " bears no public one's name", !face.contains(method.getName()));
            }
        }
    }
}
