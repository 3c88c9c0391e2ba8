import java.lang.reflect.Constructor;
import java.lang.reflect.Executable;
import java.lang.reflect.Field;
import java.lang.reflect.Method;
import java.lang.reflect.Modifier;
import java.util.ArrayList;
import java.util.Collections;
import java.util.HashSet;
import java.util.List;
import java.util.Set;

/** The public face, with the exceptions that it names, and rule 1, 5 and 11 of LANGUAGE.md as far as a class tells. */
final class FaceTest {
    private static final String[] FACE = {
        "int feed(char) IllegalStateException",
        "int parse() IllegalArgumentException IllegalStateException",
        "int clear()",
        "int instructions()",
        "int instruction(int int) IndexOutOfBoundsException IllegalArgumentException",
        "int expand()",
        "int entries()",
        "int entry(int int) IndexOutOfBoundsException IllegalArgumentException",
        "int count(int) IllegalArgumentException",
        "int live(int) IndexOutOfBoundsException IllegalStateException",
        "boolean isIndependent(int int) IndexOutOfBoundsException",
        "int candidate(int int) IndexOutOfBoundsException IllegalArgumentException IllegalStateException "
                + "NoSuchElementException",
        "int fill(int int) IndexOutOfBoundsException IllegalArgumentException IllegalStateException "
                + "NoSuchElementException",
        "int fillAll(int int) IllegalArgumentException",
        "int undo() IllegalStateException",
        "int write()",
        "char text(int) IndexOutOfBoundsException",
        "int setInitial(boolean int int) IndexOutOfBoundsException",
        "int run(boolean int) IllegalArgumentException UnsupportedOperationException",
        "int finalValue(boolean int) IllegalStateException IndexOutOfBoundsException",
        "int outputs() IllegalStateException",
        "int output(int) IllegalStateException IndexOutOfBoundsException",
        "int differences(int int) IllegalArgumentException",
        "double meanSteps(int int) IllegalArgumentException",
        "float filledShare() ArithmeticException",
        "int save()",
        "int restore() IllegalStateException",
    };

    public static void main(String[] args) {
        theFaceIsTheDocuments();
        nothingElseIsSeen();
        noPrivateMethodBearsAPublicName();
        classesKeepToTheirSizes();
        Check.finish();
    }

    private static void theFaceIsTheDocuments() {
        List<String> got = new ArrayList<>();
        for (Method method : BranchSlotFiller.class.getDeclaredMethods()) {
            if (Modifier.isPublic(method.getModifiers())) {
                got.add(method.getReturnType().getSimpleName() + " " + told(method));
                Check.same(method.getName() + " is static", Modifier.isStatic(method.getModifiers()) ? 1 : 0, 0);
            }
        }
        Collections.sort(got);
        List<String> due = new ArrayList<>(List.of(FACE));
        Collections.sort(due);
        Check.same("the face", String.join("\n", got), String.join("\n", due));
        int modifiers = BranchSlotFiller.class.getModifiers();
        Check.same("the class is public and final", modifiers, Modifier.PUBLIC | Modifier.FINAL);
    }

    private static String told(Executable executable) {
        StringBuilder text = new StringBuilder(executable.getName()).append("(");
        for (Class<?> type : executable.getParameterTypes()) {
            text.append(text.charAt(text.length() - 1) == '(' ? "" : " ").append(type.getSimpleName());
        }
        text.append(")");
        for (Class<?> type : executable.getExceptionTypes()) {
            text.append(" ").append(type.getSimpleName());
        }
        return text.toString();
    }

    private static void nothingElseIsSeen() {
        Constructor<?>[] constructors = BranchSlotFiller.class.getDeclaredConstructors();
        Check.same("constructors", constructors.length, 1);
        Check.same("the constructor is public", constructors[0].getModifiers(), Modifier.PUBLIC);
        Check.same("its parameters", constructors[0].getParameterCount(), 0);
        for (Method method : BranchSlotFiller.class.getDeclaredMethods()) {
            int modifiers = method.getModifiers();
            boolean isRight = Modifier.isPublic(modifiers) || Modifier.isPrivate(modifiers) || method.isSynthetic();
            Check.same(method.getName() + " is public or private", isRight ? 1 : 0, 1);
        }
        for (Field field : BranchSlotFiller.class.getDeclaredFields()) {
            boolean isRight = Modifier.isPrivate(field.getModifiers()) || field.isSynthetic();
            Check.same(field.getName() + " is private", isRight ? 1 : 0, 1);
        }
    }

    private static void noPrivateMethodBearsAPublicName() {
        Set<String> names = new HashSet<>();
        for (String line : FACE) {
            names.add(line.substring(line.indexOf(' ') + 1, line.indexOf('(')));
        }
        for (Class<?> type : classes()) {
            for (Method method : type.getDeclaredMethods()) {
                boolean isFace = type == BranchSlotFiller.class && Modifier.isPublic(method.getModifiers());
                boolean isWrong = !isFace && names.contains(method.getName());
                Check.same(type.getSimpleName() + "." + method.getName() + " is a public name", isWrong ? 1 : 0, 0);
            }
        }
    }

    private static List<Class<?>> classes() {
        List<Class<?>> classes = new ArrayList<>();
        classes.add(BranchSlotFiller.class);
        Collections.addAll(classes, BranchSlotFiller.class.getDeclaredClasses());
        return classes;
    }

    private static void classesKeepToTheirSizes() {
        Check.same("too many classes", classes().size() > 12 ? 1 : 0, 0);
        for (Class<?> type : classes()) {
            int modifiers = type.getModifiers();
            boolean isRight = type == BranchSlotFiller.class
                    || Modifier.isStatic(modifiers) && !Modifier.isPublic(modifiers) && !Modifier.isProtected(modifiers);
            Check.same(type.getSimpleName() + " is static and not seen", isRight ? 1 : 0, 1);
            int fields = 0;
            for (Field field : type.getDeclaredFields()) {
                boolean isStatic = Modifier.isStatic(field.getModifiers());
                fields += isStatic ? 0 : 1;
                boolean isVariable = isStatic && !Modifier.isFinal(field.getModifiers());
                Check.same(type.getSimpleName() + "." + field.getName() + " is static", isVariable ? 1 : 0, 0);
            }
            Check.same(type.getSimpleName() + " has too many fields", fields > 20 ? 1 : 0, 0);
            for (Method method : type.getDeclaredMethods()) {
                Check.same(method.getName() + " has too many parameters", method.getParameterCount() > 7 ? 1 : 0, 0);
            }
        }
    }
}
