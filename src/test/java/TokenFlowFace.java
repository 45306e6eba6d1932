import java.lang.reflect.Constructor;
import java.lang.reflect.Field;
import java.lang.reflect.Method;
import java.lang.reflect.Modifier;
import java.util.TreeSet;

/** The face of the class: what the document lists, and nothing more that can be seen from outside. */
public final class TokenFlowFace {
    private static final String[] FACE = {
        "public int actor(int,int)",
        "public int edge(int,int,int,int,int)",
        "public boolean delay(int,int)",
        "public void reset()",
        "public void clear()",
        "public int actors()",
        "public int edges()",
        "public int plan() throws java.lang.IllegalStateException,java.lang.ArithmeticException,"
            + "java.lang.UnsupportedOperationException,java.util.NoSuchElementException",
        "public int planned()",
        "public int firing(int)",
        "public int repetitions(int)",
        "public int bound(int)",
        "public int run(int) throws java.lang.IllegalStateException,java.lang.IllegalArgumentException",
        "public int tokens(int)",
        "public int token(int,int)",
        "public int value(int)",
        "public int state(int)",
    };

    private static int wrong = 0;

    public static void main(String[] args) {
        checkClass();
        checkMethods();
        checkFields();
        System.out.println(wrong == 0 ? "the face is as due" : wrong + " parts of the face are not as due");
        if (wrong != 0) {
            System.exit(1);
        }
    }

    private static void checkClass() {
        int modifiers = TokenFlow.class.getModifiers();
        due("the class is public and final", Modifier.isPublic(modifiers) && Modifier.isFinal(modifiers));
        due("the class has no package", TokenFlow.class.getPackageName().isEmpty());
        Constructor<?>[] made = TokenFlow.class.getDeclaredConstructors();
        due("there is one constructor, public, without parameters",
            made.length == 1 && Modifier.isPublic(made[0].getModifiers()) && made[0].getParameterCount() == 0);
        for (Class<?> inside : TokenFlow.class.getDeclaredClasses()) {
            int m = inside.getModifiers();
            due("the class inside " + inside.getSimpleName() + " is hidden and static",
                !Modifier.isPublic(m) && !Modifier.isProtected(m) && Modifier.isStatic(m));
        }
    }

    private static void checkMethods() {
        TreeSet<String> seen = new TreeSet<>();
        TreeSet<String> open = new TreeSet<>();
        TreeSet<String> closed = new TreeSet<>();
        for (Method method : TokenFlow.class.getDeclaredMethods()) {
            if (Modifier.isPrivate(method.getModifiers())) {
                closed.add(method.getName());
            } else {
                seen.add(method.toString().replace("TokenFlow.", ""));
                open.add(method.getName());
            }
        }
        TreeSet<String> wanted = new TreeSet<>();
        for (String line : FACE) {
            wanted.add(line);
            due("there is " + line, seen.contains(line));
        }
        for (String line : seen) {
            due("the document lists " + line, wanted.contains(line));
        }
        for (String name : closed) {
            due("no private method is called " + name, !open.contains(name));
        }
    }

    private static void checkFields() {
        for (Field field : TokenFlow.class.getDeclaredFields()) {
            int m = field.getModifiers();
            due("the field " + field.getName() + " is private", Modifier.isPrivate(m));
            due("the field " + field.getName() + " is final if it is static",
                !Modifier.isStatic(m) || Modifier.isFinal(m));
        }
    }

    private static void due(String what, boolean holds) {
        if (!holds) {
            wrong++;
            System.out.println("does not hold: " + what);
        }
    }
}
