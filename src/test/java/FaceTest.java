import java.lang.reflect.Constructor;
import java.lang.reflect.Field;
import java.lang.reflect.Method;
import java.lang.reflect.Modifier;
import java.util.Set;
import java.util.TreeSet;

/** The public face: the document's constants, constructor and methods, and no other. */
public final class FaceTest {
    private static final Set<String> METHODS = Set.of(
            "int make(int,int,int)", "int fits(int,int)", "long pass(int,int)", "int seek(int,int,int)",
            "int put(int,int,long)", "long get(int,int)", "int lay(int,int,int)", "int take(int,int,int)",
            "int share(int,int)", "int empty(int)", "int lid(int,boolean)", "int weigh(int,int)",
            "int size(int)", "int at(int)", "int fault()", "int told(int)", "int count()");

    public static void main(String[] args) {
        Dues dues = new Dues();
        dues.due("NONE", DockGates.NONE, -1);
        dues.due("BAD", DockGates.BAD, -2);
        dues.due("FULL", DockGates.FULL, -3);
        dues.due("modifiers", DockGates.class.getModifiers(), Modifier.PUBLIC | Modifier.FINAL);
        methodsAreTheDocuments(dues);
        othersArePrivate(dues);
        dues.end();
    }

    private static void methodsAreTheDocuments(Dues dues) {
        Set<String> seen = new TreeSet<>();
        Set<String> publicNames = new TreeSet<>();
        for (Method method : DockGates.class.getDeclaredMethods()) {
            if (!Modifier.isPrivate(method.getModifiers())) {
                seen.add(signature(method));
                publicNames.add(method.getName());
                dues.due("modifiers of " + method, method.getModifiers(), Modifier.PUBLIC);
            }
        }
        for (Method method : DockGates.class.getDeclaredMethods()) {
            if (Modifier.isPrivate(method.getModifiers())) {
                dues.due("public name of " + method, publicNames.contains(method.getName()) ? 1 : 0, 0);
            }
        }
        dues.due("methods " + seen, seen.equals(METHODS) ? 1 : 0, 1);
    }

    private static void othersArePrivate(Dues dues) {
        Set<String> constants = new TreeSet<>();
        for (Field field : DockGates.class.getDeclaredFields()) {
            if (!Modifier.isPrivate(field.getModifiers())) {
                constants.add(field.getName());
            }
        }
        dues.due("constants " + constants, constants.equals(Set.of("NONE", "BAD", "FULL")) ? 1 : 0, 1);
        Constructor<?>[] constructors = DockGates.class.getDeclaredConstructors();
        dues.due("constructors", constructors.length, 1);
        dues.due("constructor", constructors[0].getParameterCount(), 0);
    }

    private static String signature(Method method) {
        StringBuilder text = new StringBuilder();
        text.append(method.getReturnType().getName()).append(' ').append(method.getName()).append('(');
        String comma = "";
        for (Class<?> type : method.getParameterTypes()) {
            text.append(comma).append(type.getName());
            comma = ",";
        }
        return text.append(')').toString();
    }
}
