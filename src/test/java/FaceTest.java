import java.lang.reflect.Constructor;
import java.lang.reflect.Field;
import java.lang.reflect.Method;
import java.lang.reflect.Modifier;
import java.util.Arrays;
import java.util.Set;
import java.util.TreeSet;

/** The public face: what the document writes and no more. */
public final class FaceTest {
    private static final Check check = new Check();

    private static final Set<String> FACE = new TreeSet<>(Arrays.asList(
            "public void begin(int) throws IllegalArgumentException",
            "public int submit(int,int,int) throws IllegalArgumentException,IndexOutOfBoundsException",
            "public int sync(int,int,long) throws IllegalArgumentException,IndexOutOfBoundsException",
            "public int inject(int,int,int,int,long) throws IllegalArgumentException,IllegalStateException,"
                    + "IndexOutOfBoundsException",
            "public int event(int,int) throws IllegalArgumentException,IndexOutOfBoundsException",
            "public int hash(int,int) throws IndexOutOfBoundsException",
            "public boolean sees(int,int,boolean) throws IndexOutOfBoundsException",
            "public int vote(int,int) throws IndexOutOfBoundsException,IllegalArgumentException",
            "public int found(int,int,int) throws IllegalArgumentException,IndexOutOfBoundsException",
            "public long stamp(int,int) throws IllegalArgumentException,IndexOutOfBoundsException,"
                    + "UnsupportedOperationException",
            "public int order(int) throws IllegalArgumentException",
            "public int at(int,int) throws IllegalArgumentException,IndexOutOfBoundsException",
            "public int balance(int,int) throws IllegalArgumentException",
            "public int count(int) throws IllegalArgumentException"));

    public static void main(String[] args) {
        Class<?> face = HashgraphDesk.class;
        check.isTrue("the class is public and final",
                (face.getModifiers() & (Modifier.PUBLIC | Modifier.FINAL)) == (Modifier.PUBLIC | Modifier.FINAL));
        Constructor<?>[] constructors = face.getDeclaredConstructors();
        check.isTrue("one constructor, public and bare", constructors.length == 1
                && Modifier.isPublic(constructors[0].getModifiers()) && constructors[0].getParameterCount() == 0);
        compareMethods(face);
        for (Field field : face.getDeclaredFields()) {
            check.isTrue("field " + field.getName() + " is private", Modifier.isPrivate(field.getModifiers()));
        }
        for (Class<?> inside : face.getDeclaredClasses()) {
            check.isTrue("class " + inside.getSimpleName() + " is private or package-visible",
                    !Modifier.isPublic(inside.getModifiers()) && !Modifier.isProtected(inside.getModifiers()));
        }
        check.finish();
    }

    private static void compareMethods(Class<?> face) {
        Set<String> open = new TreeSet<>();
        Set<String> names = new TreeSet<>();
        for (Method method : face.getDeclaredMethods()) {
            if (!Modifier.isPrivate(method.getModifiers())) {
                open.add(method.toGenericString().replace("java.lang.", "").replace("HashgraphDesk.", ""));
                names.add(method.getName());
            }
        }
        check.isTrue("the open methods are those of the document, not " + open, open.equals(FACE));
        for (Method method : face.getDeclaredMethods()) {
            check.isTrue("no private method is called " + method.getName(),
                    !Modifier.isPrivate(method.getModifiers()) || !names.contains(method.getName()));
        }
    }
}
