import java.lang.reflect.Constructor;
import java.lang.reflect.Field;
import java.lang.reflect.Method;
import java.lang.reflect.Modifier;
import java.util.Set;
import java.util.TreeSet;

/** The public face: what the document writes, and no other member that can be seen. */
public final class FaceTest {
    private static final Set<String> METHODS = Set.of(
        "public int JsonShelf.feed(int,int,int,int,int) throws java.lang.IndexOutOfBoundsException",
        "public int JsonShelf.end(int) throws java.lang.IllegalArgumentException",
        "public int JsonShelf.read(int) throws java.lang.IllegalArgumentException,"
            + "java.lang.UnsupportedOperationException",
        "public int JsonShelf.print(int) throws java.lang.IllegalArgumentException,java.lang.IllegalStateException",
        "public boolean JsonShelf.same(int,int) throws java.lang.IllegalArgumentException,"
            + "java.lang.IllegalStateException",
        "public long JsonShelf.about(int,int) throws java.lang.IllegalArgumentException,"
            + "java.lang.IllegalStateException",
        "public void JsonShelf.take(int,int,int) throws java.lang.IllegalArgumentException,"
            + "java.lang.IllegalStateException,java.util.NoSuchElementException",
        "public long JsonShelf.word(int) throws java.lang.IndexOutOfBoundsException",
        "public int JsonShelf.count(int) throws java.lang.IllegalArgumentException");

    public static void main(String[] args) {
        Set<String> seen = new TreeSet<>();
        for (Method method : JsonShelf.class.getDeclaredMethods()) {
            if (!Modifier.isPrivate(method.getModifiers()) && !method.isSynthetic()) {
                seen.add(method.toGenericString());
            }
        }
        Desk.due("methods", new TreeSet<>(METHODS), seen);
        Desk.due("the class", Modifier.PUBLIC | Modifier.FINAL, JsonShelf.class.getModifiers());
        Constructor<?>[] made = JsonShelf.class.getDeclaredConstructors();
        Desk.due("constructors", 1, made.length);
        Desk.due("the constructor", "public JsonShelf()", made[0].toGenericString());
        for (Field field : JsonShelf.class.getDeclaredFields()) {
            Desk.due("private " + field.getName(), true, Modifier.isPrivate(field.getModifiers()));
        }
        for (Class<?> inside : JsonShelf.class.getDeclaredClasses()) {
            Desk.due("static " + inside, true, Modifier.isStatic(inside.getModifiers()));
        }
        Desk.close();
    }
}
