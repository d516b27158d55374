import java.lang.reflect.Constructor;
import java.lang.reflect.Field;
import java.lang.reflect.Method;
import java.lang.reflect.Modifier;
import java.util.Arrays;
import java.util.Set;
import java.util.TreeSet;

/** The face is the document's whole face and no more (rules 1, 2, 5, 8 and 11 of LANGUAGE.md). */
public final class FaceTest {
    private static final String[] FACE = {
        "int BAD_ITEM = -1", "int BAD_VALUE = -2", "int FULL = -3", "int NOT_POSSIBLE = -4",
        "int CYCLE = -5", "int STALE = -6", "int NONE = -7", "new()",
        "int add(int, int, int, int, int)", "int link(int, int, int)", "int witness(int)",
        "int unlink(int, int)", "int setPriority(int, int)", "int setPolicy(int)",
        "int setGroupLimit(int)", "int clear()", "int receive(int)", "int receipt(int)",
        "int finish(int, int)", "int giveBack(int, int, int)", "int extend(int, int, int)",
        "int cancel(int)", "int revive(int)", "int tick(int)", "int items()", "int edges()",
        "int time()", "int state(int)", "int itemsIn(int)", "int property(int, int)",
        "int edge(int, int)", "int rank(int)", "int height(int)", "int before(int)",
        "int wouldDoom(int)", "int isSuperfluous(int, int)", "int planLength(int, int)",
        "int planStart(int, int, int)", "int bestWorkers(int)", "int slack(int)", "int width()",
        "long orders()", "int write(int)", "int wipe()", "int fault()", "int load()",
        "int save(int)", "int restore(int)",
    };

    private static int wrong = 0;

    public static void main(String[] args) throws IllegalAccessException {
        Class<?> face = DependencyQueue.class;
        expect(face.getModifiers() == (Modifier.PUBLIC | Modifier.FINAL), "public and final only");
        expect(new TreeSet<>(Arrays.asList(FACE)).equals(membersOf(face)), "the face");
        checkNested(face);
        System.out.println(wrong + " wrong");
        System.exit(wrong == 0 ? 0 : 1);
    }

    private static void expect(boolean holds, String what) {
        if (!holds) {
            wrong++;
            System.out.println("does not hold: " + what);
        }
    }

    /** All members that are not private. */
    private static Set<String> membersOf(Class<?> face) throws IllegalAccessException {
        Set<String> members = new TreeSet<>();
        for (Field field : face.getDeclaredFields()) {
            if (!Modifier.isPrivate(field.getModifiers())) {
                expect(Modifier.isPublic(field.getModifiers())
                        && Modifier.isStatic(field.getModifiers())
                        && Modifier.isFinal(field.getModifiers()), field.getName());
                members.add(field.getType() + " " + field.getName() + " = " + field.get(null));
            }
        }
        for (Constructor<?> constructor : face.getDeclaredConstructors()) {
            expect(Modifier.isPublic(constructor.getModifiers()), "a public constructor");
            members.add("new" + parameters(constructor.getParameterTypes()));
        }
        for (Method method : face.getDeclaredMethods()) {
            if (!Modifier.isPrivate(method.getModifiers())) {
                expect((method.getModifiers() & ~Modifier.FINAL) == Modifier.PUBLIC,
                        method.getName());
                members.add(method.getReturnType() + " " + method.getName()
                        + parameters(method.getParameterTypes()));
            }
        }
        return members;
    }

    private static String parameters(Class<?>[] types) {
        StringBuilder list = new StringBuilder("(");
        for (Class<?> type : types) {
            list.append(list.length() > 1 ? ", " : "").append(type);
        }
        return list.append(")").toString();
    }

    private static void checkNested(Class<?> face) {
        Set<String> names = new TreeSet<>();
        for (Method method : face.getDeclaredMethods()) {
            if (Modifier.isPublic(method.getModifiers())) {
                names.add(method.getName());
            }
        }
        checkClass(face, names);
        Class<?>[] nested = face.getDeclaredClasses();
        expect(nested.length + 1 <= 12, "twelve classes at most");
        for (Class<?> one : nested) {
            expect(Modifier.isStatic(one.getModifiers())
                    && !Modifier.isPublic(one.getModifiers())
                    && !Modifier.isProtected(one.getModifiers()), one.getName());
            checkClass(one, names);
        }
    }

    private static void checkClass(Class<?> type, Set<String> names) {
        int fields = 0;
        for (Field field : type.getDeclaredFields()) {
            boolean isStatic = Modifier.isStatic(field.getModifiers());
            expect(!isStatic || Modifier.isFinal(field.getModifiers()), field.getName());
            fields += isStatic ? 0 : 1;
        }
        expect(fields <= 20, "twenty fields at most in " + type.getName());
        for (Method method : type.getDeclaredMethods()) {
            expect(method.getParameterCount() <= 7, method.getName());
            boolean ofFace = type == DependencyQueue.class
                    && Modifier.isPublic(method.getModifiers());
            expect(ofFace || !names.contains(method.getName()), method.getName());
        }
    }
}
