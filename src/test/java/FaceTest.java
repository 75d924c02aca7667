import java.lang.reflect.Constructor;
import java.lang.reflect.Field;
import java.lang.reflect.Method;
import java.lang.reflect.Modifier;
import java.util.HashSet;
import java.util.Set;

/** The public face, signature by signature, and rule 1 of LANGUAGE.md. */
public final class FaceTest {
    private static final String[] FACE = {
        "int society(int,int,int,int)", "int field(int,int,int)", "boolean gate(int,boolean)",
        "int stones(int,int)", "boolean rotate(int,boolean)", "int puddle(int)",
        "int plant(int,int)", "int help(int,int)", "int ducks(int,boolean)",
        "int harvest(int,boolean)", "int cut(int)", "int day(int,int,int)", "int inspect(int)",
        "int sell(int,int)", "int vote(int)", "int ofField(int,int)", "int ofOwner(int,int)",
        "int ofSociety(int,int)", "int water(int)", "boolean isClosed()",
        "int thought(int,boolean)", "int many(int)", "double meanDepth(int)", "int suspect(int)",
        "int wouldYield(int,int)", "int ripeIn(int)", "int plan(int,int)", "long digest()"};

    private static final Check check = new Check("FaceTest");

    public static void main(String[] args) {
        Class<?> c = Subakhall.class;
        check.due("public and final", c.getModifiers(), Modifier.PUBLIC | Modifier.FINAL);
        Set<String> due = new HashSet<>(Set.of(FACE));
        Set<String> names = new HashSet<>();
        for (String signature : FACE) {
            names.add(signature.substring(signature.indexOf(' ') + 1, signature.indexOf('(')));
        }
        for (Method m : c.getDeclaredMethods()) {
            if (Modifier.isPublic(m.getModifiers())) {
                check.due("in the face: " + told(m), due.remove(told(m)), true);
            } else {
                check.due("private: " + m, Modifier.isPrivate(m.getModifiers()), true);
                check.due("bears a name of the face: " + m, names.contains(m.getName()), false);
            }
        }
        check.due("missing in the face: " + due, due.size(), 0);
        for (Field f : c.getDeclaredFields()) {
            check.due("private: " + f, Modifier.isPrivate(f.getModifiers()), true);
        }
        Constructor<?>[] made = c.getDeclaredConstructors();
        check.due("constructors", made.length, 1);
        check.due("public constructor", Modifier.isPublic(made[0].getModifiers()), true);
        check.due("parameters of the constructor", made[0].getParameterCount(), 0);
        check.end();
    }

    private static String told(Method m) {
        StringBuilder b = new StringBuilder(m.getReturnType() + " " + m.getName() + "(");
        for (Class<?> p : m.getParameterTypes()) {
            b.append(b.charAt(b.length() - 1) == '(' ? "" : ",").append(p);
        }
        return b.append(")").toString();
    }
}
