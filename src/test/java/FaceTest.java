import java.lang.reflect.Constructor;
import java.lang.reflect.Field;
import java.lang.reflect.Method;
import java.lang.reflect.Modifier;
import java.util.Set;
import java.util.TreeSet;

/** The public face: what the document lists, and nothing beside it that another class could see. */
public final class FaceTest {
    private static final Set<String> METHODS = Set.of(
        "int set(int,int)", "int push(int,int)", "int copy(int,int)", "int neg(int)", "int add(int,int,int)",
        "int sub(int,int,int)", "int mul(int,int,int)", "int divMod(int,int,int,int)", "int shl(int,int,int)",
        "int shr(int,int,int)", "int gcd(int,int,int)", "int powMod(int,int,int,int)", "int root(int,int)", "int cmp(int,int)",
        "int sign(int)", "int length(int,int)", "int limb(int,int)", "int write(int)", "int written(int)", "int type(long,int)",
        "int read(int)");

    public static void main(String[] args) {
        Check.due("BAD", IntFile.BAD, -1);
        Check.due("NO", IntFile.NO, -2);
        Check.due("FULL", IntFile.FULL, -3);
        Check.due("public and final", IntFile.class.getModifiers(), Modifier.PUBLIC | Modifier.FINAL);
        fields();
        methods();
        Constructor<?>[] made = IntFile.class.getDeclaredConstructors();
        Check.due("constructors", made.length, 1);
        Check.due("the constructor is public", made[0].getModifiers(), Modifier.PUBLIC);
        Check.due("its parameters are ints", describe("", made[0].getParameterTypes()).equals("(int,int,int)") ? 1 : 0, 1);
        Check.end();
    }

    private static void fields() {
        int shown = 0;
        for (Field field : IntFile.class.getDeclaredFields()) {
            if (!Modifier.isPrivate(field.getModifiers())) {
                shown++;
                Check.due(field + " is a public constant", field.getModifiers(), Modifier.PUBLIC | Modifier.STATIC | Modifier.FINAL);
            }
        }
        Check.due("constants", shown, 3);
    }

    private static void methods() {
        Set<String> shown = new TreeSet<>();
        Set<String> names = new TreeSet<>();
        for (Method method : IntFile.class.getDeclaredMethods()) {
            if (!Modifier.isPrivate(method.getModifiers())) {
                Check.due(method + " is public", method.getModifiers(), Modifier.PUBLIC);
                shown.add(method.getReturnType().getName() + " " + describe(method.getName(), method.getParameterTypes()));
                names.add(method.getName());
            }
        }
        if (!shown.equals(METHODS)) {
            Check.due("methods " + shown + ", asked are " + METHODS, 0, 1);
        }
        for (Method method : IntFile.class.getDeclaredMethods()) {
            if (Modifier.isPrivate(method.getModifiers())) {
                Check.due(method + " has a name of its own", names.contains(method.getName()) ? 1 : 0, 0);
            }
        }
    }

    private static String describe(String name, Class<?>[] parameters) {
        StringBuilder text = new StringBuilder(name).append('(');
        for (int i = 0; i < parameters.length; i++) {
            text.append(i == 0 ? "" : ",").append(parameters[i].getName());
        }
        return text.append(')').toString();
    }
}
