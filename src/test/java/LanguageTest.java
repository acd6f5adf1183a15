import java.io.IOException;
import java.lang.reflect.Constructor;
import java.lang.reflect.Field;
import java.lang.reflect.Method;
import java.lang.reflect.Modifier;
import java.nio.file.Files;
import java.nio.file.Path;
import java.util.Set;
import java.util.TreeSet;
import java.util.regex.Matcher;
import java.util.regex.Pattern;

/** The public face of the document, and those rules of LANGUAGE.md that can be seen without a parser. */
public final class LanguageTest {
    private static final Set<String> FACE = Set.of(
        "void name(long,long,long,long)", "boolean spend(int)", "int enter(long,int,int)", "boolean take()",
        "int drop()", "int strike(int)", "long look(int)", "int order(int)", "long row(int,int)",
        "int count(int)", "long fees()");

    private static final String FORBIDDEN = "\\b(throw|throws|try|catch|synchronized|assert|import|package"
        + "|Object|System\\.(?!arraycopy)\\w+|Thread|hashCode|toString|getClass|\\w+Exact|\\w+Exception)\\b|->|::";

    public static void main(String[] args) throws IOException {
        faceIsTheDocuments();
        nestedClassesAreStatic();
        sourceKeepsToTheRules();
        Due.end();
    }

    private static void faceIsTheDocuments() {
        Due.is("public", Modifier.isPublic(PoolDesk.class.getModifiers()), true);
        Due.is("final", Modifier.isFinal(PoolDesk.class.getModifiers()), true);
        Set<String> open = new TreeSet<>();
        Set<String> closedNames = new TreeSet<>();
        for (Method m : PoolDesk.class.getDeclaredMethods()) {
            if (Modifier.isPrivate(m.getModifiers())) {
                closedNames.add(m.getName());
            } else {
                Due.is("public: " + m, m.getModifiers(), Modifier.PUBLIC);
                open.add(signature(m));
            }
        }
        Due.is("the methods are the document's: " + open, open.equals(FACE), true);
        for (Method m : PoolDesk.class.getMethods()) {
            Due.is("a private method named " + m.getName(), closedNames.contains(m.getName()), false);
        }
        for (Field f : PoolDesk.class.getDeclaredFields()) {
            Due.is("private: " + f, Modifier.isPrivate(f.getModifiers()), true);
        }
        Constructor<?>[] makers = PoolDesk.class.getDeclaredConstructors();
        Due.is("one constructor", makers.length, 1);
        Due.is("it takes nothing", makers[0].getParameterCount(), 0);
        Due.is("it is public", Modifier.isPublic(makers[0].getModifiers()), true);
    }

    private static String signature(Method m) {
        StringBuilder text = new StringBuilder(m.getReturnType() + " " + m.getName() + "(");
        for (Class<?> p : m.getParameterTypes()) {
            text.append(text.charAt(text.length() - 1) == '(' ? "" : ",").append(p);
        }
        return text.append(")").toString();
    }

    private static void nestedClassesAreStatic() {
        Class<?>[] nested = PoolDesk.class.getDeclaredClasses();
        Due.is("at most twelve classes", nested.length < 12, true);
        for (Class<?> c : nested) {
            Due.is("static: " + c, Modifier.isStatic(c.getModifiers()), true);
            Due.is("not public: " + c, Modifier.isPublic(c.getModifiers()), false);
            for (Field f : c.getDeclaredFields()) {
                Due.is("no static state: " + f, Modifier.isStatic(f.getModifiers()), false);
            }
        }
    }

    private static void sourceKeepsToTheRules() throws IOException {
        String source = Files.readString(Path.of("src/main/java/PoolDesk.java"));
        String code = source.replaceAll("(?s)/\\*.*?\\*/", "").replaceAll("//[^\n]*", "");
        Matcher found = Pattern.compile(FORBIDDEN).matcher(code);
        while (found.find()) {
            Due.is("the source has " + found.group(), 1, 0);
        }
    }
}
