import java.lang.reflect.Constructor;
import java.lang.reflect.Field;
import java.lang.reflect.Method;
import java.lang.reflect.Modifier;

/** "The public face": all that the document writes there, and nothing more. */
public final class FaceTest {
    private static int methods = 0;

    public static void main(String[] args) {
        Due.says("public final class PoolDesk {", FaceTest::classIsPublicAndFinal);
        Due.says("public PoolDesk();", FaceTest::oneConstructor);
        has("public void name(long a, long b, long c, long d);", void.class, "name",
            long.class, long.class, long.class, long.class);
        has("public boolean spend(int index);", boolean.class, "spend", int.class);
        has("public int enter(long fee, int size, int outputs);", int.class, "enter",
            long.class, int.class, int.class);
        has("public boolean take();", boolean.class, "take");
        has("public int drop();", int.class, "drop");
        has("public int strike(int index);", int.class, "strike", int.class);
        has("public long look(int what);", long.class, "look", int.class);
        has("public int order(int size);", int.class, "order", int.class);
        has("public long row(int k, int w);", long.class, "row", int.class, int.class);
        has("public int count(int what);", int.class, "count", int.class);
        has("public long fees();", long.class, "fees");
        Due.says("## The public face", FaceTest::nothingElseIsOpen);
        Due.end();
    }

    private static void classIsPublicAndFinal() {
        Due.is("flags of the class", PoolDesk.class.getModifiers(), Modifier.PUBLIC | Modifier.FINAL);
    }

    private static void oneConstructor() {
        Constructor<?>[] all = PoolDesk.class.getDeclaredConstructors();
        Due.is("constructors", all.length, 1);
        Due.is("what it takes", all[0].getParameterCount(), 0);
        Due.is("flags of the constructor", all[0].getModifiers(), Modifier.PUBLIC);
        Due.is("what it may throw", all[0].getExceptionTypes().length, 0);
    }

    private static void has(String words, Class<?> answer, String name, Class<?>... parameters) {
        methods++;
        Due.says(words, () -> {
            try {
                Method one = PoolDesk.class.getDeclaredMethod(name, parameters);
                Due.is("flags", one.getModifiers(), Modifier.PUBLIC);
                Due.is("type of the answer", one.getReturnType() == answer, true);
                Due.is("what it may throw", one.getExceptionTypes().length, 0);
            } catch (NoSuchMethodException e) {
                Due.is("such a method", false, true);
            }
        });
    }

    private static void nothingElseIsOpen() {
        int open = 0;
        for (Method one : PoolDesk.class.getDeclaredMethods()) {
            open += Modifier.isPrivate(one.getModifiers()) ? 0 : 1;
        }
        Due.is("methods that are not private", open, methods);
        for (Field one : PoolDesk.class.getDeclaredFields()) {
            Due.is("private: " + one, Modifier.isPrivate(one.getModifiers()), true);
        }
        for (Class<?> one : PoolDesk.class.getDeclaredClasses()) {
            Due.is("private: " + one, Modifier.isPrivate(one.getModifiers()), true);
        }
    }
}
