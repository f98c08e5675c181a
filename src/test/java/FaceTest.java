import java.lang.reflect.Constructor;
import java.lang.reflect.Field;
import java.lang.reflect.Method;
import java.lang.reflect.Modifier;
import java.util.Arrays;
import java.util.TreeSet;

/** The public face is just the one of the document, with its throws clauses. */
public final class FaceTest {
    private static final String I = "IndexOutOfBoundsException";
    private static final String A = "IllegalArgumentException";
    private static final String S = "IllegalStateException";

    private static final String[] METHODS = {
        "int addDie(int) " + I + " " + S,
        "int crack(int,int) " + I + " " + A + " " + S,
        "int strike(int,int) " + I + " " + A + " " + S,
        "int cast(int) " + I + " " + S,
        "int melt(int) " + I + " " + S,
        "int struck()",
        "int defects(int) " + I,
        "int couldBeOf(int) " + I,
        "int stages(int) " + I,
        "int proof(int) " + I,
        "int condemn(int) " + I + " " + S,
        "boolean isCondemned(int) " + I,
        "boolean isTrue(int) " + I,
        "int rarity(int) " + I,
        "int rarityByCoins(int) " + I,
        "int price(int) " + I,
        "int give(int,int) " + I + " " + S,
        "int want(int,int,boolean) " + I + " " + S,
        "int setFairness(int,int) " + I + " " + A,
        "boolean mark(int,boolean) " + I + " " + S,
        "int owner(int) " + I,
        "int wants(int) " + I,
        "int offers(int) " + I,
        "int worth(int) " + I,
        "int coinAt(int,int) " + I,
        "int ring()",
        "int ringAt(int) " + I,
        "int swap() " + S,
        "int swaps()",
        "int swapAt(int,int) " + I,
        "int spoiled()",
    };

    private FaceTest() {
    }

    public static void main(String[] args) {
        Class<?> face = DieRegister.class;
        Check.yes("the class is public", Modifier.isPublic(face.getModifiers()));
        Check.yes("the class is final", Modifier.isFinal(face.getModifiers()));
        methods(face);
        constructors(face);
        fields(face);
        for (Class<?> inside : face.getDeclaredClasses()) {
            Check.no(inside + " is public", Modifier.isPublic(inside.getModifiers()));
            Check.no(inside + " is protected", Modifier.isProtected(inside.getModifiers()));
        }
        Check.end();
    }

    private static void methods(Class<?> face) {
        TreeSet<String> found = new TreeSet<>();
        for (Method method : face.getDeclaredMethods()) {
            if (!Modifier.isPrivate(method.getModifiers()) && !method.isSynthetic()) {
                Check.yes(method + " is public", Modifier.isPublic(method.getModifiers()));
                Check.no(method + " is static", Modifier.isStatic(method.getModifiers()));
                found.add(sign(method));
            }
        }
        TreeSet<String> due = new TreeSet<>(Arrays.asList(METHODS));
        if (!found.equals(due)) {
            Check.tell("the methods are " + found + ", due are " + due);
        }
    }

    private static String sign(Method method) {
        StringBuilder sign = new StringBuilder(method.getReturnType() + " " + method.getName());
        String comma = "(";
        for (Class<?> type : method.getParameterTypes()) {
            sign.append(comma).append(type);
            comma = ",";
        }
        sign.append(comma.equals("(") ? "()" : ")");
        for (Class<?> thrown : method.getExceptionTypes()) {
            sign.append(" ").append(thrown.getSimpleName());
        }
        return sign.toString();
    }

    private static void constructors(Class<?> face) {
        Constructor<?>[] found = face.getDeclaredConstructors();
        Check.same("the constructors", 1, found.length);
        Check.same("the arguments of the constructor", 0, found[0].getParameterCount());
        Check.yes("the constructor is public", Modifier.isPublic(found[0].getModifiers()));
    }

    private static void fields(Class<?> face) {
        int open = 0;
        for (Field field : face.getDeclaredFields()) {
            if (!Modifier.isPrivate(field.getModifiers())) {
                open++;
                Check.same(field.getName(), Modifier.PUBLIC | Modifier.STATIC | Modifier.FINAL,
                        field.getModifiers());
            }
        }
        Check.same("the fields that are not private", 1, open);
        Check.same("NONE", -1, DieRegister.NONE);
    }
}
