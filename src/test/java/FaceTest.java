import java.lang.reflect.Constructor;
import java.lang.reflect.Field;
import java.lang.reflect.Method;
import java.lang.reflect.Modifier;
import java.util.ArrayList;
import java.util.Collections;
import java.util.List;
import java.util.Set;
import java.util.TreeSet;

/** The class shows the face of the document, and nothing else. */
public final class FaceTest {
    private static final String A = " throws IllegalArgumentException";
    private static final String I = ", IndexOutOfBoundsException";
    private static final String S = ", IllegalStateException";
    private static final String[] FACE = {
        "int setAttribute(int, int, int)" + A,
        "boolean setTag(int, int, boolean)" + A,
        "int type(int, int)" + A + S,
        "int erase(int, int)" + A,
        "int sign(int, int)" + A + I,
        "int fault(int)" + A,
        "int set(int)" + A + S,
        "int wouldMove(int)" + A + S,
        "boolean isIn(int, int)" + A,
        "int addRule(int, int, int, int)" + A + I + S,
        "int removeRule(int, int)" + A + I,
        "int rules(int)" + A,
        "boolean setNeed(int, int, boolean)" + A + S,
        "int view(int, int)" + A,
        "int viewByLog(int, int)" + A,
        "int ruleFor(int, int)" + A,
        "int reach(int, int)" + A,
        "int show(int, int)" + A + S,
        "int setShares(int, int, int, int, int)" + A + S,
        "int setSalt(int, int)" + A + S,
        "int stop(int, int)" + A + S,
        "int beginAnew(int)" + A + S,
        "int arm(int, int)" + A,
        "int kept(int, int)" + A,
        "int hold(int, int)" + A + S,
        "int release(int, int)" + A + S,
        "int holdTrial(int)" + A + S,
        "int releaseTrial(int)" + A + S,
        "boolean isHeld(int, int)" + A,
        "int entries()",
        "int shownLast(int, int)" + A,
    };
    private static final List<String> faults = new ArrayList<>();

    public static void main(String[] args) {
        checkMethods();
        checkConstructors();
        checkFields();
        if (FlagChamber.class.getModifiers() != (Modifier.PUBLIC | Modifier.FINAL)) {
            faults.add("the class is not just public and final");
        }
        for (String fault : faults) {
            System.out.println(fault);
        }
        System.exit(faults.isEmpty() ? 0 : 1);
    }

    private static void checkMethods() {
        Set<String> due = new TreeSet<>();
        Collections.addAll(due, FACE);
        Set<String> found = new TreeSet<>();
        Set<String> publicNames = new TreeSet<>();
        Set<String> otherNames = new TreeSet<>();
        for (Method method : FlagChamber.class.getDeclaredMethods()) {
            if (Modifier.isPublic(method.getModifiers())) {
                found.add(written(method));
                if (method.getModifiers() != Modifier.PUBLIC) {
                    faults.add("more than public: " + method);
                }
                publicNames.add(method.getName());
            } else {
                otherNames.add(method.getName());
                if (!Modifier.isPrivate(method.getModifiers())) {
                    faults.add("neither public nor private: " + method);
                }
            }
        }
        for (Class<?> inside : FlagChamber.class.getDeclaredClasses()) {
            if (!Modifier.isPrivate(inside.getModifiers()) || !Modifier.isStatic(inside.getModifiers())) {
                faults.add("not private and static: " + inside);
            }
            for (Method method : inside.getDeclaredMethods()) {
                otherNames.add(method.getName());
            }
        }
        if (!found.equals(due)) {
            faults.add("the public methods are " + found + ", due are " + due);
        }
        otherNames.retainAll(publicNames);
        if (!otherNames.isEmpty()) {
            faults.add("private methods bear names of public ones: " + otherNames);
        }
    }

    private static String written(Method method) {
        StringBuilder text = new StringBuilder();
        text.append(method.getReturnType().getSimpleName()).append(' ').append(method.getName()).append('(');
        text.append(joined(method.getParameterTypes())).append(')');
        if (method.getExceptionTypes().length > 0) {
            text.append(" throws ").append(joined(method.getExceptionTypes()));
        }
        return text.toString();
    }

    private static String joined(Class<?>[] types) {
        List<String> names = new ArrayList<>();
        for (Class<?> type : types) {
            names.add(type.getSimpleName());
        }
        return String.join(", ", names);
    }

    private static void checkConstructors() {
        Constructor<?>[] constructors = FlagChamber.class.getDeclaredConstructors();
        if (constructors.length != 1 || !Modifier.isPublic(constructors[0].getModifiers())
                || constructors[0].getParameterCount() != 0 || constructors[0].getExceptionTypes().length != 0) {
            faults.add("there is not just the one public constructor");
        }
    }

    private static void checkFields() {
        Set<String> found = new TreeSet<>();
        for (Field field : FlagChamber.class.getDeclaredFields()) {
            if (Modifier.isPublic(field.getModifiers())) {
                found.add(Modifier.toString(field.getModifiers()) + " " + field.getType() + " " + field.getName());
            } else if (!Modifier.isPrivate(field.getModifiers())) {
                faults.add("neither public nor private: " + field);
            }
            if (Modifier.isStatic(field.getModifiers()) && !Modifier.isFinal(field.getModifiers())) {
                faults.add("static and not final: " + field);
            }
        }
        Set<String> due = new TreeSet<>();
        for (String name : new String[] {"NONE", "LAND", "AGE", "PLAN"}) {
            due.add("public static final int " + name);
        }
        if (!found.equals(due)) {
            faults.add("the public fields are " + found);
        }
        if (FlagChamber.NONE != -1 || FlagChamber.LAND != 0 || FlagChamber.AGE != 1 || FlagChamber.PLAN != 2) {
            faults.add("a constant has another value");
        }
    }
}
