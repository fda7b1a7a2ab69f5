import java.lang.reflect.Constructor;
import java.lang.reflect.Field;
import java.lang.reflect.Method;
import java.lang.reflect.Modifier;
import java.util.ArrayList;
import java.util.List;
import java.util.Set;
import java.util.TreeSet;

/** The public face is the document's, and nothing else of the class can be seen from outside. */
public final class FaceTest {

    private static final String[] FACE = {
        "int addDoor(char,int) IllegalArgumentException IllegalStateException",
        "int addExaminer(char,int,int,int) IllegalArgumentException IllegalStateException",
        "int declareConflict(int,int) IndexOutOfBoundsException IllegalStateException",
        "int assign(int,int) IndexOutOfBoundsException IllegalStateException UnsupportedOperationException",
        "int carryOutPlan()",
        "int grade(int,int,int) IndexOutOfBoundsException IllegalArgumentException IllegalStateException",
        "int setThreshold(int) IllegalArgumentException",
        "int appeal(int) IndexOutOfBoundsException IllegalStateException UnsupportedOperationException",
        "int award(int) IndexOutOfBoundsException IllegalStateException UnsupportedOperationException",
        "int revoke(int) NoSuchElementException IllegalStateException",
        "int doorCount()",
        "char frameOfDoor(int) IndexOutOfBoundsException",
        "int topic(int) IndexOutOfBoundsException",
        "int examinersOf(int) IndexOutOfBoundsException",
        "int gradesOf(int) IndexOutOfBoundsException",
        "int result(int) IndexOutOfBoundsException NoSuchElementException",
        "boolean passes(int) IndexOutOfBoundsException",
        "boolean wasGranted(int) IndexOutOfBoundsException",
        "boolean isEntitled(int) IndexOutOfBoundsException",
        "int doorAtRank(int) NoSuchElementException",
        "int examinerCount()",
        "char frameOfExaminer(int) IndexOutOfBoundsException",
        "int load(int) IndexOutOfBoundsException",
        "boolean isNeutral(int,int) IndexOutOfBoundsException",
        "boolean mayJudge(int,int) IndexOutOfBoundsException",
        "boolean isAssigned(int,int) IndexOutOfBoundsException",
        "int gradeBy(int,int) IndexOutOfBoundsException NoSuchElementException",
        "int planSize()",
        "int planSizeBySets()",
        "int plannedExaminer(int) IndexOutOfBoundsException NoSuchElementException",
        "int panelCount(int) IndexOutOfBoundsException",
        "int panelCountByFrames(int) IndexOutOfBoundsException",
        "int panelMember(int,int) IndexOutOfBoundsException IllegalArgumentException NoSuchElementException",
        "int threshold()",
        "int entryCount()",
        "int doorOf(int) NoSuchElementException",
        "boolean isRevoked(int) NoSuchElementException",
        "int assignments()",
        "int assignmentsByDoors()",
        "long gradeTotal()",
        "double meanGrade() ArithmeticException",
        "float passShare() ArithmeticException",
        "boolean isConsistent()",
        "int append(char) IllegalStateException",
        "int run() IllegalArgumentException UnsupportedOperationException",
        "int errorPosition() NoSuchElementException",
        "int failedCommand() NoSuchElementException",
        "int writeDoor(int) IndexOutOfBoundsException",
        "int writeExaminer(int) IndexOutOfBoundsException",
        "char outputAt(int) IndexOutOfBoundsException",
        "int undo() IllegalStateException",
        "void save()",
        "void restore() IllegalStateException",
    };

    public static void main(String[] args) {
        Checks checks = new Checks("FaceTest");
        Set<String> visible = new TreeSet<>();
        Set<String> visibleNames = new TreeSet<>();
        List<Method> hidden = new ArrayList<>();
        for (Method method : DoorAcademy.class.getDeclaredMethods()) {
            if (Modifier.isPrivate(method.getModifiers()) || method.isSynthetic()) {
                hidden.add(method);
            } else {
                visible.add(textOf(method));
                visibleNames.add(method.getName());
                checks.due(method.getName() + " is public and not static",
                        Modifier.isPublic(method.getModifiers()) && !Modifier.isStatic(method.getModifiers()), true);
            }
        }
        checks.due("the methods", visible, new TreeSet<>(List.of(FACE)));
        for (Method method : hidden) {
            checks.due("private name " + method.getName() + " is also a public one",
                    visibleNames.contains(method.getName()), false);
        }
        checkClassAndFields(checks);
        checks.end();
    }

    private static void checkClassAndFields(Checks checks) {
        checks.due("the class is public and final", Modifier.toString(DoorAcademy.class.getModifiers()), "public final");
        Constructor<?>[] constructors = DoorAcademy.class.getDeclaredConstructors();
        checks.due("constructors", constructors.length, 1);
        checks.due("the constructor is public", Modifier.isPublic(constructors[0].getModifiers()), true);
        checks.due("parameters of the constructor", constructors[0].getParameterCount(), 0);
        for (Field field : DoorAcademy.class.getDeclaredFields()) {
            int modifiers = field.getModifiers();
            checks.due(field.getName() + " is private", Modifier.isPrivate(modifiers), true);
            checks.due(field.getName() + " is static without being final",
                    Modifier.isStatic(modifiers) && !Modifier.isFinal(modifiers), false);
        }
        for (Class<?> inside : DoorAcademy.class.getDeclaredClasses()) {
            checks.due(inside.getSimpleName() + " is static", Modifier.isStatic(inside.getModifiers()), true);
            checks.due(inside.getSimpleName() + " can be seen outside",
                    Modifier.isPublic(inside.getModifiers()) || Modifier.isProtected(inside.getModifiers()), false);
        }
    }

    private static String textOf(Method method) {
        StringBuilder text = new StringBuilder();
        text.append(method.getReturnType().getSimpleName()).append(' ').append(method.getName()).append('(');
        String comma = "";
        for (Class<?> type : method.getParameterTypes()) {
            text.append(comma).append(type.getSimpleName());
            comma = ",";
        }
        text.append(')');
        for (Class<?> type : method.getExceptionTypes()) {
            text.append(' ').append(type.getSimpleName());
        }
        return text.toString();
    }
}
