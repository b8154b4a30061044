import java.lang.reflect.Constructor;
import java.lang.reflect.Field;
import java.lang.reflect.Method;
import java.lang.reflect.Modifier;
import java.util.Set;
import java.util.TreeSet;

/** The class has the document's face, and nothing else that can be seen from outside. */
public final class FaceTest {
    private static final String[] FACE = {
        "boolean strands(int,int)", "int letter(int,int)", "boolean copy(int,int,boolean)", "int many(int,int)",
        "int at(int,int)", "int end(int,int)", "int reduce(int,boolean)", "boolean round(int,boolean)",
        "boolean exchange(int,int)", "boolean pass(int,int)", "boolean grow(int,int)", "boolean shrink(int)",
        "boolean same(int,int)", "int form(int,int,int)", "int length(int)", "int crossing(int,int,int)",
    };

    public static void main(String[] args) {
        Class<?> face = BraidWords.class;
        Due.equal("modifiers", Modifier.toString(face.getModifiers()), "public final");
        Set<String> seen = new TreeSet<>();
        Set<String> names = new TreeSet<>();
        for (Method method : face.getDeclaredMethods()) {
            if (!Modifier.isPrivate(method.getModifiers())) {
                seen.add(shape(method));
                names.add(method.getName());
                Due.equal(method.toString(), Modifier.toString(method.getModifiers()), "public");
            }
        }
        Due.equal("methods", seen.toString(), new TreeSet<>(Set.of(FACE)).toString());
        for (Class<?> inside : face.getDeclaredClasses()) {
            Due.equal(inside + " is static", Modifier.isStatic(inside.getModifiers()), true);
            noNamesOfTheFace(inside, names);
            checkStaticFields(inside);
        }
        noNamesOfTheFace(face, names);
        checkStaticFields(face);
        checkConstructors(face);
        for (Field field : face.getDeclaredFields()) {
            Due.equal(field + " is private", Modifier.isPrivate(field.getModifiers()), true);
        }
        Due.finish();
    }

    private static String shape(Method method) {
        StringBuilder text = new StringBuilder(method.getReturnType() + " " + method.getName() + "(");
        for (Class<?> type : method.getParameterTypes()) {
            text.append(text.charAt(text.length() - 1) == '(' ? "" : ",").append(type);
        }
        return text.append(")").toString();
    }

    private static void noNamesOfTheFace(Class<?> type, Set<String> names) {
        for (Method method : type.getDeclaredMethods()) {
            boolean ofTheFace = Modifier.isPublic(method.getModifiers()) && type == BraidWords.class;
            Due.equal(method + " bears a name of the face", !ofTheFace && names.contains(method.getName()), false);
        }
    }

    private static void checkStaticFields(Class<?> type) {
        for (Field field : type.getDeclaredFields()) {
            int how = field.getModifiers();
            Due.equal(field + " is final, if static", !Modifier.isStatic(how) || Modifier.isFinal(how), true);
        }
    }

    private static void checkConstructors(Class<?> face) {
        Constructor<?>[] makers = face.getDeclaredConstructors();
        Due.equal("constructors", makers.length, 1);
        Due.equal("constructor", makers[0].toString(), "public BraidWords()");
    }
}
