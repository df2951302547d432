import java.lang.reflect.Constructor;
import java.lang.reflect.Field;
import java.lang.reflect.Method;
import java.lang.reflect.Modifier;
import java.util.TreeSet;

/** The class has the document's face: its constant, constructor and methods, and no other public member. */
public final class FaceTest {
    private static final String[] METHODS = {
        "int append(int) IllegalArgumentException IllegalStateException",
        "int clearText()",
        "int errorPosition()",
        "int load() IllegalStateException",
        "int about(int) IllegalArgumentException",
        "int wallOf(int,int) IndexOutOfBoundsException IllegalArgumentException",
        "int metreOf(int,int,int) IndexOutOfBoundsException IllegalArgumentException",
        "int dealerOf(int,int) IndexOutOfBoundsException IllegalArgumentException",
        "int plugOf(int,int) IndexOutOfBoundsException IllegalArgumentException",
        "int setting(int) IllegalArgumentException",
        "int free(int,int) IndexOutOfBoundsException IllegalArgumentException",
        "int wall(int) IllegalArgumentException IllegalStateException",
        "int outlet(int,int,int) IndexOutOfBoundsException IllegalArgumentException",
        "int dealer(int,int,int) IllegalArgumentException IllegalStateException",
        "int place(int,int,int) IndexOutOfBoundsException",
        "int leave(int) IndexOutOfBoundsException IllegalStateException",
        "int swap(int,int) IndexOutOfBoundsException IllegalArgumentException",
        "int days(int) IllegalArgumentException",
        "int set(int,int) IllegalArgumentException",
        "int undo() IllegalStateException",
        "int rentIf(int,int,int) IndexOutOfBoundsException",
        "int cheapest(int,int) IndexOutOfBoundsException IllegalArgumentException",
        "int bestSwap(int) IllegalArgumentException",
        "int why(int,int) IndexOutOfBoundsException IllegalArgumentException",
        "int runScript(int,long) IllegalArgumentException",
        "int simulate(long,int) IllegalArgumentException",
        "int save(int) IndexOutOfBoundsException",
        "int restore(int) IndexOutOfBoundsException IllegalStateException",
    };

    public static void main(String[] args) throws Exception {
        TreeSet<String> due = new TreeSet<>();
        TreeSet<String> names = new TreeSet<>();
        for (String method : METHODS) {
            due.add(method);
            names.add(method.substring(4, method.indexOf('(')));
        }
        TreeSet<String> got = new TreeSet<>();
        boolean wrong = false;
        for (Method method : FairWalls.class.getDeclaredMethods()) {
            if (Modifier.isPublic(method.getModifiers())) {
                got.add(faceOf(method));
            } else if (!Modifier.isPrivate(method.getModifiers()) && !method.isSynthetic()
                    || names.contains(method.getName())) {
                System.out.println("not of the face: " + method);
                wrong = true;
            }
        }
        if (!got.equals(due)) {
            System.out.println("methods are " + got + ", due are " + due);
            wrong = true;
        }
        for (Field field : FairWalls.class.getDeclaredFields()) {
            boolean isConstant = field.getName().equals("NONE") && Modifier.isPublic(field.getModifiers());
            if (!isConstant && !Modifier.isPrivate(field.getModifiers())) {
                System.out.println("not of the face: " + field);
                wrong = true;
            }
        }
        Constructor<?>[] makers = FairWalls.class.getDeclaredConstructors();
        wrong |= makers.length != 1 || makers[0].getParameterCount() != 0
                || !Modifier.isPublic(makers[0].getModifiers());
        wrong |= !Modifier.isFinal(FairWalls.class.getModifiers()) || FairWalls.NONE != -1;
        System.out.println(wrong ? "the face is not as due" : "the face is as due");
        if (wrong) {
            System.exit(1);
        }
    }

    private static String faceOf(Method method) {
        StringBuilder face = new StringBuilder();
        face.append(method.getReturnType().getSimpleName()).append(' ').append(method.getName()).append('(');
        String comma = "";
        for (Class<?> parameter : method.getParameterTypes()) {
            face.append(comma).append(parameter.getSimpleName());
            comma = ",";
        }
        face.append(')');
        for (Class<?> thrown : method.getExceptionTypes()) {
            face.append(' ').append(thrown.getSimpleName());
        }
        return face.toString();
    }
}
