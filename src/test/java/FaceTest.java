import java.lang.reflect.Constructor;
import java.lang.reflect.Field;
import java.lang.reflect.Method;
import java.lang.reflect.Modifier;
import java.util.Arrays;
import java.util.TreeSet;

/** The public face is the document's, and nothing else can be seen from outside the class. */
public final class FaceTest {
    private static final String INDEX = "java.lang.IndexOutOfBoundsException";
    private static final String TURN = "java.lang.IllegalStateException";
    private static final String RANGE = "java.lang.IllegalArgumentException";
    private static final String MEANING = "java.lang.UnsupportedOperationException";

    private static final String[] FACE = {
        "public int ProofLeaves.feed(long,int) throws " + RANGE + "," + MEANING,
        "public int ProofLeaves.leaf() throws " + MEANING,
        "public int ProofLeaves.close() throws " + MEANING,
        "public int ProofLeaves.root(int,int) throws " + INDEX,
        "public int ProofLeaves.digest(int,int) throws " + INDEX,
        "public int ProofLeaves.count(int) throws " + INDEX,
        "public int ProofLeaves.prove(int,int) throws " + INDEX + "," + TURN,
        "public int ProofLeaves.proof(int,int) throws " + INDEX,
        "public void ProofLeaves.bend(int,int,int) throws " + INDEX + "," + RANGE,
        "public int ProofLeaves.check(int,int,int,int) throws " + INDEX + "," + TURN + "," + RANGE,
        "public boolean ProofLeaves.grew(int,int) throws " + INDEX + "," + RANGE,
        "public int ProofLeaves.withdraw(int) throws " + INDEX + "," + MEANING,
        "public int ProofLeaves.absence(int,int) throws " + INDEX + "," + TURN,
        "public int ProofLeaves.mark(int,long,long,int) throws " + INDEX,
        "public void ProofLeaves.poke(int,int,int) throws " + INDEX + "," + RANGE,
    };

    public static void main(String[] args) {
        Due due = new Due();
        Class<?> face = ProofLeaves.class;
        due.equal("the class's modifiers", Modifier.toString(face.getModifiers()), "public final");

        TreeSet<String> methods = new TreeSet<>();
        for (Method method : face.getDeclaredMethods()) {
            if (!Modifier.isPrivate(method.getModifiers())) {
                methods.add(method.toString());
            } else {
                due.equal("private " + method.getName() + " bears a public name", named(method.getName()) ? 1 : 0, 0);
            }
        }
        due.equal("methods seen", methods.toString(), new TreeSet<>(Arrays.asList(FACE)).toString());

        Constructor<?>[] constructors = face.getDeclaredConstructors();
        due.equal("constructors", Arrays.toString(constructors), "[public ProofLeaves()]");
        for (Field field : face.getDeclaredFields()) {
            int modifiers = field.getModifiers();
            due.equal(field + " is private", Modifier.isPrivate(modifiers) ? 1 : 0, 1);
            due.equal(field + " if static, is final",
                    Modifier.isStatic(modifiers) && !Modifier.isFinal(modifiers) ? 1 : 0, 0);
        }
        due.end();
    }

    private static boolean named(String name) {
        for (String method : FACE) {
            if (method.contains("." + name + "(")) {
                return true;
            }
        }
        return false;
    }
}
