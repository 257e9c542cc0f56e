import java.lang.reflect.Constructor;
import java.lang.reflect.Field;
import java.lang.reflect.Method;
import java.lang.reflect.Modifier;
import java.util.Set;
import java.util.TreeSet;

/** The public face, and rule 1 of LANGUAGE.md: nothing else can be seen from outside. */
public final class FaceTest {
    private static final Set<String> FACE = Set.of(
        "public static final int ConferenceBridge.NONE",
        "public ConferenceBridge()",
        "public int ConferenceBridge.decode(int,int) throws java.util.NoSuchElementException",
        "public int ConferenceBridge.encode(int,int)",
        "public boolean ConferenceBridge.law(int,int)",
        "public boolean ConferenceBridge.gain(int,int)",
        "public boolean ConferenceBridge.mute(int,boolean)",
        "public boolean ConferenceBridge.speakers(int)",
        "public boolean ConferenceBridge.put(int,int,int)",
        "public boolean ConferenceBridge.ramp(int,int,int)",
        "public int ConferenceBridge.mix()",
        "public int ConferenceBridge.out(int,int)",
        "public long ConferenceBridge.energy(int) throws java.util.NoSuchElementException");

    public static void main(String[] args) {
        Checks checks = new Checks();
        int kind = ConferenceBridge.class.getModifiers();
        checks.due("the class is public and final", kind, Modifier.PUBLIC | Modifier.FINAL);
        checks.due("NONE", ConferenceBridge.NONE, -1);
        checks.due("NONE is a constant that a switch can use", namesNone(-1), true);
        checks.due("what is not NONE", namesNone(0), false);
        nothingIsInherited(checks);
        noClassInsideIsSeen(checks);
        noStateIsShared(checks);

        Set<String> seen = new TreeSet<>();
        Set<String> publicNames = new TreeSet<>();
        for (Field field : ConferenceBridge.class.getDeclaredFields()) {
            addIfSeen(seen, field.getModifiers(), field.toString());
        }
        for (Constructor<?> constructor : ConferenceBridge.class.getDeclaredConstructors()) {
            addIfSeen(seen, constructor.getModifiers(), constructor.toString());
        }
        for (Method method : ConferenceBridge.class.getDeclaredMethods()) {
            addIfSeen(seen, method.getModifiers(), method.toString());
            if (Modifier.isPublic(method.getModifiers())) {
                publicNames.add(method.getName());
            }
        }
        for (String member : FACE) {
            checks.due("the face has " + member, seen.contains(member), true);
        }
        for (String member : seen) {
            checks.due("the face may have " + member, FACE.contains(member), true);
        }
        for (Method method : ConferenceBridge.class.getDeclaredMethods()) {
            boolean namesake = Modifier.isPrivate(method.getModifiers()) && publicNames.contains(method.getName());
            checks.due("a private method bears a public one's name: " + method, namesake, false);
        }
        checks.end();
    }

    private static boolean namesNone(int answer) {
        switch (answer) {
            case ConferenceBridge.NONE: return true;
            default: return false;
        }
    }

    private static void nothingIsInherited(Checks checks) {
        checks.due("the class extends Object alone", ConferenceBridge.class.getSuperclass() == Object.class, true);
        checks.due("interfaces of the class", ConferenceBridge.class.getInterfaces().length, 0);
        checks.due("type parameters of the class", ConferenceBridge.class.getTypeParameters().length, 0);
        checks.due("the class has no package", ConferenceBridge.class.getPackageName().isEmpty(), true);
    }

    /** A class inside may be package-visible by rule 1, if it is static. */
    private static void noClassInsideIsSeen(Checks checks) {
        for (Class<?> inside : ConferenceBridge.class.getDeclaredClasses()) {
            int kind = inside.getModifiers();
            boolean seen = Modifier.isPublic(kind) || Modifier.isProtected(kind);
            checks.due("a class inside is seen: " + inside, seen, false);
            boolean within = Modifier.isPrivate(kind) || Modifier.isStatic(kind);
            checks.due("a class inside is private or static: " + inside, within, true);
        }
    }

    /** Rule 5, and "All memory is the class's own.": what is static never changes. */
    private static void noStateIsShared(Checks checks) {
        for (Field field : ConferenceBridge.class.getDeclaredFields()) {
            int kind = field.getModifiers();
            checks.due(field + " is no state that objects share", Modifier.isStatic(kind) && !Modifier.isFinal(kind), false);
        }
    }

    private static void addIfSeen(Set<String> seen, int modifiers, String member) {
        if (!Modifier.isPrivate(modifiers)) {
            seen.add(member);
        }
    }
}
