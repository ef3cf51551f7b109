import java.lang.reflect.Constructor;
import java.lang.reflect.Field;
import java.lang.reflect.Member;
import java.lang.reflect.Method;
import java.lang.reflect.Modifier;
import java.util.Arrays;
import java.util.Set;
import java.util.TreeSet;

/** The class has the document's face and nothing beside it that is not private. */
public final class FaceTest {
    private static final String[] FACE = {
        "public static final int GridRipUp.NONE",
        "public GridRipUp(int,int,int,long)",
        "public boolean GridRipUp.bar(int,int,int) throws java.lang.IndexOutOfBoundsException",
        "public int GridRipUp.net()",
        "public boolean GridRipUp.pin(int,int,int,int) throws java.lang.IndexOutOfBoundsException",
        "public boolean GridRipUp.cost(int,int,int,int) throws java.lang.IndexOutOfBoundsException,"
            + "java.lang.IllegalArgumentException",
        "public int GridRipUp.run(int) throws java.lang.IllegalArgumentException",
        "public int GridRipUp.piece(int,int,int) throws java.lang.IndexOutOfBoundsException",
        "public long GridRipUp.costOf(int) throws java.lang.IndexOutOfBoundsException",
        "public int GridRipUp.ripped(int) throws java.lang.IndexOutOfBoundsException",
        "public long GridRipUp.history(int,int,int) throws java.lang.IndexOutOfBoundsException",
        "public int GridRipUp.open(int)",
        "public int GridRipUp.blocking(int,int) throws java.lang.IndexOutOfBoundsException",
        "public boolean GridRipUp.joined(int) throws java.lang.IndexOutOfBoundsException",
        "public int GridRipUp.corridor(int,int) throws java.lang.IndexOutOfBoundsException",
        "public int GridRipUp.round()",
        "public boolean GridRipUp.band(int) throws java.lang.IndexOutOfBoundsException",
    };

    private static boolean isPrivate(Member member) {
        return Modifier.isPrivate(member.getModifiers());
    }

    public static void main(String[] args) {
        Class<?> face = GridRipUp.class;
        Set<String> seen = new TreeSet<>();
        Set<String> publicNames = new TreeSet<>();
        Set<String> privateNames = new TreeSet<>();
        for (Field field : face.getDeclaredFields()) {
            if (!isPrivate(field)) {
                seen.add(field.toString());
            }
        }
        for (Constructor<?> constructor : face.getDeclaredConstructors()) {
            seen.add(constructor.toString());
        }
        for (Method method : face.getDeclaredMethods()) {
            (isPrivate(method) ? privateNames : publicNames).add(method.getName());
            if (!isPrivate(method)) {
                seen.add(method.toString());
            }
        }
        privateNames.retainAll(publicNames);
        boolean right = seen.equals(new TreeSet<>(Arrays.asList(FACE))) && privateNames.isEmpty()
            && Modifier.isPublic(face.getModifiers()) && Modifier.isFinal(face.getModifiers());
        for (Class<?> inside : face.getDeclaredClasses()) {
            right &= Modifier.isStatic(inside.getModifiers()) && !Modifier.isPublic(inside.getModifiers());
        }
        System.out.println(right ? "the face is as due" : "the face is not as due: " + seen + ", names twice: " + privateNames);
        if (!right) {
            System.exit(1);
        }
    }
}
