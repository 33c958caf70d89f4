import java.lang.reflect.Constructor;
import java.lang.reflect.Field;
import java.lang.reflect.Method;
import java.lang.reflect.Modifier;
import java.util.Set;
import java.util.TreeSet;

/** The class shows the document's face and no other member. */
public final class FaceTest {
    private static final String[] FACE = {
        "public static final int WalkAligner.BAD",
        "public static final int WalkAligner.NONE",
        "public WalkAligner()",
        "public boolean WalkAligner.type(char)",
        "public void WalkAligner.clear()",
        "public int WalkAligner.load()",
        "public int WalkAligner.size(int)",
        "public int WalkAligner.base(int)",
        "public boolean WalkAligner.follows(int,int)",
        "public boolean WalkAligner.read(char)",
        "public void WalkAligner.drop()",
        "public int WalkAligner.align()",
        "public int WalkAligner.least(int,int)",
        "public int WalkAligner.walk(int)",
        "public int WalkAligner.edit(int)",
        "public boolean WalkAligner.lies(int)",
        "public int WalkAligner.tell()",
        "public int WalkAligner.letter(int)",
    };

    private static final Checks checks = new Checks("Face");

    public static void main(String[] args) {
        checks.test("the members of the document's face, and no other", FaceTest::members);
        checks.test("BAD = -1 and NONE = -2", FaceTest::constants);
        checks.test("the class is public and final", FaceTest::ofTheClass);
        checks.test("the classes inside are static and not public", FaceTest::classesInside);
        checks.test("static fields are final", FaceTest::staticFields);
        checks.end();
    }

    private static void members() {
        checks.same("members", seen().toString(), new TreeSet<>(Set.of(FACE)).toString());
    }

    private static void constants() {
        checks.same("BAD", WalkAligner.BAD, -1);
        checks.same("NONE", WalkAligner.NONE, -2);
    }

    private static void ofTheClass() {
        checks.yes("public", Modifier.isPublic(WalkAligner.class.getModifiers()));
        checks.yes("final", Modifier.isFinal(WalkAligner.class.getModifiers()));
    }

    private static void classesInside() {
        for (Class<?> inside : WalkAligner.class.getDeclaredClasses()) {
            checks.yes(inside + " is static", Modifier.isStatic(inside.getModifiers()));
            checks.no(inside + " is public", Modifier.isPublic(inside.getModifiers()));
        }
    }

    private static void staticFields() {
        for (Field field : WalkAligner.class.getDeclaredFields()) {
            boolean fixed = Modifier.isFinal(field.getModifiers());
            checks.yes(field + " is final if static", fixed || !Modifier.isStatic(field.getModifiers()));
        }
    }

    private static Set<String> seen() {
        Set<String> all = new TreeSet<>();
        for (Field field : WalkAligner.class.getDeclaredFields()) {
            note(all, field.getModifiers(), field.toString());
        }
        for (Constructor<?> maker : WalkAligner.class.getDeclaredConstructors()) {
            note(all, maker.getModifiers(), maker.toString());
        }
        for (Method method : WalkAligner.class.getDeclaredMethods()) {
            note(all, method.getModifiers(), method.toString());
        }
        return all;
    }

    private static void note(Set<String> all, int modifiers, String member) {
        if (!Modifier.isPrivate(modifiers)) {
            all.add(member);
        }
    }
}
