import java.lang.reflect.Constructor;
import java.lang.reflect.Field;
import java.lang.reflect.Method;
import java.lang.reflect.Modifier;
import java.util.Set;
import java.util.TreeSet;

/** The public face is the document's, and nothing else of the class is to be seen. */
final class FaceTest {
    private static final Set<String> FACE = Set.of(
            "public final class StageShares",
            "public static final int StageShares.NONE",
            "public static final int StageShares.OUTSIDE",
            "public static final int StageShares.FULL",
            "public StageShares(int)",
            "public int StageShares.value(int,long)",
            "public int StageShares.steps(int,int)",
            "public int StageShares.touch(int,int)",
            "public int StageShares.leave(int,boolean)",
            "public int StageShares.batches()",
            "public int StageShares.batch(int)",
            "public int StageShares.fail(int,int)",
            "public int StageShares.run(int,long)",
            "public int StageShares.told(int)",
            "public int StageShares.times(int)",
            "public int StageShares.doneBy(int)",
            "public long StageShares.result(int)",
            "public long StageShares.joined()",
            "public long StageShares.plain()",
            "public void StageShares.clear()");

    private static final Due DUE = new Due("FaceTest");

    public static void main(String[] args) {
        Set<String> seen = seenMembers();
        for (String member : FACE) {
            DUE.is("there is " + member, seen.contains(member) ? 1 : 0, 1);
        }
        for (String member : seen) {
            DUE.is("the document has " + member, FACE.contains(member) ? 1 : 0, 1);
        }
        DUE.is("NONE", StageShares.NONE, -1);
        DUE.is("OUTSIDE", StageShares.OUTSIDE, -3);
        DUE.is("FULL", StageShares.FULL, -4);
        classesInside();
        namesOfPrivateMethods();
        DUE.end();
    }

    private static Set<String> seenMembers() {
        Set<String> seen = new TreeSet<>();
        seen.add(StageShares.class.toGenericString());
        for (Field field : StageShares.class.getDeclaredFields()) {
            if (isSeen(field.getModifiers())) seen.add(field.toGenericString());
        }
        for (Constructor<?> constructor : StageShares.class.getDeclaredConstructors()) {
            if (isSeen(constructor.getModifiers())) seen.add(constructor.toGenericString());
        }
        for (Method method : StageShares.class.getDeclaredMethods()) {
            if (isSeen(method.getModifiers())) seen.add(method.toGenericString());
        }
        return seen;
    }

    private static boolean isSeen(int modifiers) {
        return !Modifier.isPrivate(modifiers);
    }

    private static void classesInside() {
        for (Class<?> inside : StageShares.class.getDeclaredClasses()) {
            int modifiers = inside.getModifiers();
            DUE.is(inside + " is static", Modifier.isStatic(modifiers) ? 1 : 0, 1);
            DUE.is(inside + " is public or protected", modifiers & (Modifier.PUBLIC | Modifier.PROTECTED), 0);
        }
    }

    // Rule 1 of LANGUAGE.md; a class inside may not lend a public name to a method either.
    private static void namesOfPrivateMethods() {
        Set<String> publicNames = new TreeSet<>();
        for (Method method : StageShares.class.getDeclaredMethods()) {
            if (isSeen(method.getModifiers())) publicNames.add(method.getName());
        }
        for (Method method : StageShares.class.getDeclaredMethods()) {
            if (!isSeen(method.getModifiers())) hasANameOfItsOwn(method, publicNames);
        }
        for (Class<?> inside : StageShares.class.getDeclaredClasses()) {
            for (Method method : inside.getDeclaredMethods()) hasANameOfItsOwn(method, publicNames);
        }
    }

    private static void hasANameOfItsOwn(Method method, Set<String> publicNames) {
        DUE.is(method + " bears the name of a public method", publicNames.contains(method.getName()) ? 1 : 0, 0);
    }
}
