import java.lang.reflect.Constructor;
import java.lang.reflect.Field;
import java.lang.reflect.Method;
import java.lang.reflect.Modifier;
import java.util.Set;
import java.util.TreeSet;

/** The public face: what the document lists, with what it throws, and nothing else. */
public final class FaceTest {
    private static final Set<String> FACE = Set.of(
            "public FormatForge()",
            "public int FormatForge.type(long) throws IllegalArgumentException,IllegalStateException",
            "public int FormatForge.clear()",
            "public int FormatForge.fault()",
            "public int FormatForge.compile() throws UnsupportedOperationException,IllegalStateException",
            "public int FormatForge.size(boolean) throws NoSuchElementException",
            "public int FormatForge.put(long,int) throws IllegalArgumentException,IllegalStateException",
            "public int FormatForge.cut(int) throws IllegalArgumentException",
            "public int FormatForge.read() throws UnsupportedOperationException,NoSuchElementException,"
                    + "IllegalStateException,IndexOutOfBoundsException",
            "public int FormatForge.write() throws UnsupportedOperationException,NoSuchElementException,"
                    + "IllegalStateException,IndexOutOfBoundsException",
            "public long FormatForge.value(int) throws IndexOutOfBoundsException",
            "public double FormatForge.real(int) throws IndexOutOfBoundsException",
            "public int FormatForge.set(int,long) throws IllegalArgumentException,IllegalStateException",
            "public int FormatForge.drop(int,int) throws IndexOutOfBoundsException",
            "public int FormatForge.byteAt(int) throws IndexOutOfBoundsException",
            "public int FormatForge.count(int) throws IllegalArgumentException");

    public static void main(String[] args) {
        Set<String> seen = new TreeSet<>();
        for (Constructor<?> constructor : FormatForge.class.getDeclaredConstructors()) {
            seen.add(constructor.toString());
        }
        for (Method method : FormatForge.class.getDeclaredMethods()) {
            if (!Modifier.isPrivate(method.getModifiers())) {
                seen.add(method.toString().replace("java.lang.", "").replace("java.util.", ""));
            }
        }
        for (Field field : FormatForge.class.getDeclaredFields()) {
            Script.check("private: " + field, Modifier.isPrivate(field.getModifiers()), true);
        }
        Script.check("the face", seen, new TreeSet<>(FACE));
        Script.check("final", Modifier.isFinal(FormatForge.class.getModifiers()), true);
        Script.finish("FaceTest");
    }
}
