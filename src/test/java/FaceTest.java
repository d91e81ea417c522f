import java.lang.reflect.Constructor;
import java.lang.reflect.Field;
import java.lang.reflect.Method;
import java.lang.reflect.Modifier;
import java.util.Arrays;
import java.util.TreeSet;

/** The public face, and promise 1: what a new object is. */
public final class FaceTest {
    private static final String FACE = "add(long,long,long)int!IllegalArgument!IllegalState "
            + "append(long,int)int!IllegalArgument!IllegalState ask()int!IllegalArgument!IllegalState "
            + "begin()int!IllegalState cell(int,int)long!NoSuchElement!UnsupportedOperation commit()int!IllegalState "
            + "count(int)int!IllegalArgument crash(int)int!IllegalArgument fault()int "
            + "remove(long,long,long)int!IllegalArgument rollback()int!IllegalState sync()int";

    public static void main(String[] args) {
        face();
        newObject();
        objectsOnTheirOwn();
        Check.end();
    }

    private static void face() {
        TreeSet<String> open = new TreeSet<>();
        for (Method method : TripleStore.class.getDeclaredMethods()) {
            if (!Modifier.isPrivate(method.getModifiers()) && !method.isSynthetic()) {
                String types = Arrays.toString(method.getParameterTypes());
                open.add(method.getName() + "(" + types.substring(1, types.length() - 1).replace(" ", "")
                        + ")" + method.getReturnType() + thrown(method));
                Check.due("public " + method.getName(), Modifier.isPublic(method.getModifiers()), true);
            }
        }
        Check.due("the open methods", String.join(" ", open), FACE);
        for (Field field : TripleStore.class.getDeclaredFields()) {
            Check.due("private " + field.getName(), Modifier.isPrivate(field.getModifiers()), true);
        }
        Constructor<?>[] made = TripleStore.class.getDeclaredConstructors();
        Check.due("constructors", made.length, 1);
        Check.due("its parameters", made[0].getParameterCount(), 0);
        Check.due("public", Modifier.isPublic(made[0].getModifiers()), true);
        Check.due("final", Modifier.isFinal(TripleStore.class.getModifiers()), true);
    }

    private static String thrown(Method method) {
        StringBuilder names = new StringBuilder();
        for (Class<?> type : method.getExceptionTypes()) {
            names.append('!').append(type.getSimpleName().replace("Exception", ""));
        }
        return names.toString();
    }

    private static void newObject() {
        TripleStore store = new TripleStore();
        for (int what = 0; what <= 6; what++) {
            Check.due("count " + what + " of a new object", store.count(what), 0);
        }
        Check.due("fault of a new object", store.fault(), -1);
        Check.due("cell of a new object", Check.cell(store, 0, 0), "none");
        Check.due("commit of a new object", Check.answer(store::commit), "IllegalStateException");
        Check.due("rollback of a new object", Check.answer(store::rollback), "IllegalStateException");
        Check.due("sync of a new object", store.sync(), 0);
        Check.due("crash of a new object", store.crash(1000), 0);
        Check.due("begin of a new object", store.begin(), 0);
    }

    private static void objectsOnTheirOwn() {
        TripleStore one = Check.storeOf("a b c");
        TripleStore other = new TripleStore();
        one.append('x', 1);
        Check.due("triples of the other", other.count(0), 0);
        Check.due("text of the other", other.count(6), 0);
    }
}
