import java.lang.reflect.Constructor;
import java.lang.reflect.Field;
import java.lang.reflect.Method;
import java.lang.reflect.Modifier;
import java.util.Arrays;
import java.util.TreeSet;

/** The face of the class is the document's and nothing else. */
public final class FaceTest {
    private static final String[] FACE = {
        "int write(int,int,int,int,int,char,int,int)", "int patch(int,int,int)", "int setConstant(int,int)",
        "char reason(int,int,int,char,int)", "int reserve(int)", "int free()", "int setEntry(int,int,int)",
        "int setCatch(int,int)", "int setCell(int,int)", "int setRegister(int,int)", "int start(int,int,boolean)",
        "boolean setPage(int,boolean)", "int setWait(int)", "int setVector(int)", "boolean interrupt()",
        "int reset()", "int step(int)", "int run(int)", "char state()", "int cell(int)", "int register(int)",
        "int part(char)", "int next()", "int returns()", "int bus()", "int drivers()", "int unset(int)",
        "int reached(int)", "int defined(char)", "int ended()", "int wrong()", "int firstWrong()", "int fights()",
        "int faults()", "int taken()", "int found()", "long cycles()", "long cyclesOf(int,int)",
        "float usedShare()", "double meanCycles()", "boolean isSound()",
    };

    public static void main(String[] args) {
        Class<?> face = MicrostoreWorks.class;
        Check.same("public and final", face.getModifiers() == (Modifier.PUBLIC | Modifier.FINAL), true);
        TreeSet<String> seen = new TreeSet<>();
        TreeSet<String> names = new TreeSet<>();
        for (Method method : face.getDeclaredMethods()) {
            if (!Modifier.isPrivate(method.getModifiers())) {
                seen.add(signatureOf(method));
                names.add(method.getName());
                Check.same(method.getName() + " is public alone", method.getModifiers() == Modifier.PUBLIC, true);
            }
        }
        Check.same("methods", seen.toString(), new TreeSet<>(Arrays.asList(FACE)).toString());
        for (Field field : face.getDeclaredFields()) {
            Check.same(field.getName() + " is private", Modifier.isPrivate(field.getModifiers()), true);
        }
        Constructor<?>[] constructors = face.getDeclaredConstructors();
        Check.same("constructors", constructors.length, 1);
        Check.same("its parameters", constructors[0].getParameterCount(), 0);
        Check.same("it is public", constructors[0].getModifiers() == Modifier.PUBLIC, true);
        checkPrivateNames(face, names);
        Check.finish();
    }

    private static void checkPrivateNames(Class<?> face, TreeSet<String> names) {
        for (Method method : face.getDeclaredMethods()) {
            if (Modifier.isPrivate(method.getModifiers())) {
                Check.same(method.getName() + " bears a public name", names.contains(method.getName()), false);
            }
        }
        for (Class<?> inside : face.getDeclaredClasses()) {
            Check.same(inside.getName() + " is static", Modifier.isStatic(inside.getModifiers()), true);
            Check.same(inside.getName() + " is public", Modifier.isPublic(inside.getModifiers()), false);
            for (Method method : inside.getDeclaredMethods()) {
                Check.same(method.getName() + " bears a public name", names.contains(method.getName()), false);
            }
        }
    }

    private static String signatureOf(Method method) {
        StringBuilder text = new StringBuilder();
        text.append(method.getReturnType().getSimpleName()).append(' ').append(method.getName()).append('(');
        String comma = "";
        for (Class<?> type : method.getParameterTypes()) {
            text.append(comma).append(type.getSimpleName());
            comma = ",";
        }
        return text.append(')').toString();
    }
}
