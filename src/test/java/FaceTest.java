import java.lang.reflect.Constructor;
import java.lang.reflect.Field;
import java.lang.reflect.Method;
import java.lang.reflect.Modifier;
import java.util.Arrays;
import java.util.Set;
import java.util.TreeSet;

/** The public face of ../shared/DOC.md, and that nothing else of the class can be seen. */
public final class FaceTest {
    private static final String INDEX = "IndexOutOfBoundsException";
    private static final String ARGUMENT = "IllegalArgumentException";
    private static final String STATE = "IllegalStateException";

    private static final String[] FACE = {
        "int say(int, int) " + INDEX + " " + ARGUMENT + " " + STATE,
        "int cough(int) " + INDEX + " " + STATE,
        "int removeCough(int) " + INDEX + " " + STATE,
        "int tie(int) " + INDEX + " " + STATE,
        "int splice(int) " + INDEX + " " + STATE,
        "int rest(int) " + ARGUMENT,
        "int remarks()", "int words()", "int coughs()", "int patience()", "int spent()",
        "boolean isCough(int) " + INDEX,
        "int speakerAt(int) " + INDEX,
        "int placeOf(int) " + INDEX,
        "int topicOf(int) " + INDEX,
        "int wordsOf(int) " + INDEX,
        "int coughsIn(int) " + INDEX,
        "int strainOf(int) " + INDEX,
        "boolean isTied(int) " + INDEX,
        "boolean isSmooth(int) " + INDEX,
        "boolean isPolite(int) " + INDEX,
        "boolean isBroken(int) " + INDEX,
        "int brokenGaps()", "int politeGaps()", "int threads()",
        "int threadOf(int) " + INDEX,
        "int lengthOf(int) " + INDEX,
        "int longestThread()",
        "int threadsOf(int) " + INDEX,
        "int topicsIn(int) " + INDEX,
        "int costOfMending(int) " + INDEX,
        "int costOfAll()",
        "int brokenAfterSplice(int) " + INDEX + " " + STATE,
        "int bestSplice()",
        "boolean wouldBreak(int, int) " + INDEX + " " + ARGUMENT,
        "double meanStrain()", "long digest()",
    };

    private static String told(Method method) {
        StringBuilder told = new StringBuilder(method.getReturnType().getSimpleName());
        String parameters = Arrays.toString(method.getParameterTypes());
        told.append(' ').append(method.getName());
        told.append('(').append(parameters, 1, parameters.length() - 1).append(')');
        for (Class<?> thrown : method.getExceptionTypes()) {
            told.append(' ').append(thrown.getSimpleName());
        }
        return told.toString();
    }

    public static void main(String[] args) {
        Check check = new Check("FaceTest");
        Class<SplicedTalk> program = SplicedTalk.class;
        check.is("public and final", Modifier.toString(program.getModifiers()), "public final");
        Constructor<?>[] makers = program.getDeclaredConstructors();
        check.is("constructors", makers.length, 1);
        check.is("constructor", makers[0].toString(), "public SplicedTalk()");
        Set<String> face = new TreeSet<>();
        Set<String> names = new TreeSet<>();
        for (Method method : program.getDeclaredMethods()) {
            if (!Modifier.isPrivate(method.getModifiers())) {
                check.is(method.getName(), Modifier.toString(method.getModifiers()), "public");
                face.add(told(method));
                names.add(method.getName());
            }
        }
        check.is("the face", face, new TreeSet<>(Arrays.asList(FACE)));
        for (Method method : program.getDeclaredMethods()) {
            if (Modifier.isPrivate(method.getModifiers())) {
                check.is("private with a public name: " + method.getName(), names.contains(method.getName()), false);
            }
        }
        for (Field field : program.getDeclaredFields()) {
            int modifiers = field.getModifiers();
            check.is("private: " + field.getName(), Modifier.isPrivate(modifiers), true);
            boolean state = Modifier.isStatic(modifiers) && !Modifier.isFinal(modifiers);
            check.is("static state: " + field.getName(), state, false);
        }
        check.exit();
    }
}
