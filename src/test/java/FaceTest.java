import java.lang.reflect.Method;
import java.lang.reflect.Modifier;
import java.util.Set;
import java.util.TreeSet;

/** The public face: the document's members and no others. */
public final class FaceTest {
    private static final Set<String> DUE = Set.of(
            "public void RationalForms.begin(int,int) throws java.lang.IllegalArgumentException",
            "public int RationalForms.put(int,int,int,int) throws java.lang.IllegalArgumentException,java.lang.IndexOutOfBoundsException",
            "public int RationalForms.about(int,int) throws java.lang.IllegalArgumentException",
            "public int RationalForms.symbol(int,int,int) throws java.lang.ArithmeticException,java.lang.IllegalArgumentException",
            "public int RationalForms.hasse(int,int) throws java.lang.IllegalArgumentException",
            "public boolean RationalForms.isotropicAt(int,int) throws java.lang.IllegalArgumentException",
            "public int RationalForms.obstacle(int) throws java.lang.IllegalArgumentException",
            "public boolean RationalForms.takes(int,int) throws java.lang.IllegalArgumentException,java.lang.ArithmeticException",
            "public boolean RationalForms.equivalent()",
            "public long RationalForms.value(int,int,int,int,int) throws java.lang.IllegalArgumentException",
            "public int RationalForms.sign(int,int) throws java.lang.IllegalArgumentException,java.lang.IndexOutOfBoundsException");

    public static void main(String[] args) {
        Check check = new Check();
        Set<String> seen = new TreeSet<>();
        for (Method method : RationalForms.class.getDeclaredMethods()) {
            if (!Modifier.isPrivate(method.getModifiers())) {
                seen.add(method.toString());
            }
        }
        check.due("the methods", seen, new TreeSet<>(DUE));
        check.due("the class", Modifier.toString(RationalForms.class.getModifiers()), "public final");
        check.due("constructors", RationalForms.class.getDeclaredConstructors().length, 1);
        check.due("public constructors", RationalForms.class.getConstructors().length, 1);
        for (var field : RationalForms.class.getDeclaredFields()) {
            check.due("private " + field, Modifier.isPrivate(field.getModifiers()), true);
        }
        check.end();
    }
}
