import java.lang.reflect.Constructor;
import java.lang.reflect.Executable;
import java.lang.reflect.Field;
import java.lang.reflect.Member;
import java.lang.reflect.Method;
import java.lang.reflect.Modifier;
import java.util.ArrayList;
import java.util.List;
import java.util.Set;
import java.util.TreeSet;

/** The public face, as the document writes it down, and those rules of the language that can be seen from outside. */
public final class FaceTest {
    private static final String INDEX = "java.lang.IndexOutOfBoundsException";
    private static final String ARGUMENT = "java.lang.IllegalArgumentException";
    private static final String STATE = "java.lang.IllegalStateException";

    private static final String[] METHODS = {
        "int append(int,int,int,int,int)",
        "int parse(int) throws " + ARGUMENT,
        "int errorPosition()",
        "int sine(int) throws " + ARGUMENT,
        "int lean(int) throws " + ARGUMENT,
        "int state(int) throws " + ARGUMENT,
        "int link(int,int) throws " + INDEX + "," + ARGUMENT,
        "long energy(int) throws " + INDEX,
        "int target(int) throws " + INDEX,
        "int push()",
        "int stopReason()",
        "int switchesIn(int) throws " + ARGUMENT,
        "int reason(int,int) throws " + INDEX,
        "int failedStep(int,int) throws " + INDEX,
        "int regionSize()",
        "int cellsWith(int)",
        "int cellOf(int,int) throws " + INDEX + "," + ARGUMENT,
        "boolean isCapturable()",
        "int ticksToBalance(int) throws " + ARGUMENT,
        "int ticksToStop(int) throws " + ARGUMENT,
        "int farthest(int) throws " + ARGUMENT,
        "int linkAfter(int,int,int) throws " + INDEX + "," + ARGUMENT,
        "int run(int) throws " + ARGUMENT + "," + STATE,
        "int setMode(int) throws " + ARGUMENT + "," + STATE,
        "int reset(int,int) throws " + ARGUMENT,
        "int nudge(int,int) throws " + INDEX + "," + ARGUMENT + "," + STATE,
        "int setForce(int) throws " + ARGUMENT,
        "int undo()",
        "boolean saveSnapshot(int) throws " + INDEX,
        "int restoreSnapshot(int) throws " + INDEX + "," + STATE,
    };

    public static void main(String[] args) throws Exception {
        classItself();
        publicMembers();
        otherMembers();
        namesOfPrivateMethods();
        for (Class<?> one : allClasses()) {
            staticFields(one);
            sizes(one);
        }
        Checks.due("at most some twelve classes", allClasses().size() <= 13, true);
        Checks.finish();
    }

    private static void classItself() {
        int is = RailPendulum.class.getModifiers();
        Checks.due("public", Modifier.isPublic(is), true);
        Checks.due("final", Modifier.isFinal(is), true);
        Checks.sameText("no package", RailPendulum.class.getName(), "RailPendulum");
        Checks.due("no class above it", RailPendulum.class.getSuperclass() == Object.class, true);
    }

    private static void publicMembers() throws Exception {
        Set<String> want = new TreeSet<>(List.of(METHODS));
        Set<String> got = new TreeSet<>();
        for (Method method : RailPendulum.class.getDeclaredMethods()) {
            if (Modifier.isPublic(method.getModifiers())) {
                Checks.due(method.getName() + " is an object's own", Modifier.isStatic(method.getModifiers()), false);
                got.add(method.toGenericString().replace("public ", "").replace("final ", "").replace("RailPendulum.", ""));
            }
        }
        Checks.sameText("the public methods", String.join("\n", got), String.join("\n", want));
        Checks.due("one public constructor", RailPendulum.class.getConstructors().length, 1);
        Checks.due("without parameters", RailPendulum.class.getConstructor().getExceptionTypes().length, 0);
        Checks.due("one public constant", RailPendulum.class.getFields().length, 1);
        Field none = RailPendulum.class.getField("NONE");
        Checks.due("it is a constant", Modifier.isStatic(none.getModifiers()) && Modifier.isFinal(none.getModifiers()), true);
        Checks.due("it is an int", none.getType() == int.class, true);
        Checks.due("NONE", none.getInt(null), -1);
    }

    /** Rule 1: "no other public, protected or package-visible member, but for the classes inside it". */
    private static void otherMembers() {
        List<Member> members = new ArrayList<>();
        members.addAll(List.of(RailPendulum.class.getDeclaredMethods()));
        members.addAll(List.of(RailPendulum.class.getDeclaredFields()));
        members.addAll(List.of(RailPendulum.class.getDeclaredConstructors()));
        for (Member member : members) {
            boolean seen = Modifier.isPublic(member.getModifiers()) || Modifier.isPrivate(member.getModifiers());
            Checks.due(member + " is public or private", seen || member.isSynthetic(), true);
        }
        for (Class<?> inside : RailPendulum.class.getDeclaredClasses()) {
            int is = inside.getModifiers();
            Checks.due(inside + " is private or package-visible", Modifier.isPublic(is) || Modifier.isProtected(is), false);
            Checks.due(inside + " is static", Modifier.isStatic(is), true);
        }
    }

    /** Rule 1: "No private method bears the name of a public one." */
    private static void namesOfPrivateMethods() {
        Set<String> names = new TreeSet<>();
        for (Method method : RailPendulum.class.getMethods()) {
            names.add(method.getName());
        }
        for (Method method : RailPendulum.class.getDeclaredMethods()) {
            if (!Modifier.isPublic(method.getModifiers())) {
                Checks.due(method.getName() + " is a public name", names.contains(method.getName()), false);
                Checks.due(method.getName() + " is a lambda", method.getName().startsWith("lambda$"), false);
            }
        }
    }

    private static List<Class<?>> allClasses() {
        List<Class<?>> all = new ArrayList<>(List.of(RailPendulum.class));
        for (int k = 0; k < all.size(); k++) {
            all.addAll(List.of(all.get(k).getDeclaredClasses()));
        }
        return all;
    }

    /** Rule 5: "Static fields are final". */
    private static void staticFields(Class<?> one) {
        for (Field field : one.getDeclaredFields()) {
            if (Modifier.isStatic(field.getModifiers()) && !field.isSynthetic()) {
                Checks.due(field + " is final", Modifier.isFinal(field.getModifiers()), true);
            }
        }
    }

    /** Rule 11: "A method takes at most seven parameters"; "a class some twenty fields beside its constants". */
    private static void sizes(Class<?> one) {
        List<Executable> calls = new ArrayList<>(List.of(one.getDeclaredMethods()));
        for (Constructor<?> constructor : one.getDeclaredConstructors()) {
            calls.add(constructor);
        }
        for (Executable call : calls) {
            Checks.due(call + " takes at most seven parameters", call.getParameterCount() <= 7 || call.isSynthetic(), true);
        }
        int fields = 0;
        for (Field field : one.getDeclaredFields()) {
            fields += Modifier.isStatic(field.getModifiers()) ? 0 : 1;
        }
        Checks.due(one + " has some twenty fields at most", fields <= 22, true);
    }
}
