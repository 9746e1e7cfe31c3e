import java.lang.reflect.Constructor;
import java.lang.reflect.Field;
import java.lang.reflect.Method;
import java.lang.reflect.Modifier;
import java.util.Arrays;
import java.util.TreeSet;

/** The public face as the document has it, and no member beside it that others could see. */
public final class FaceTest {
    public static void main(String[] args) {
        Checks c = new Checks();
        Class<?> face = SyntaxRows.class;
        c.due("public final", face.getModifiers() & (Modifier.PUBLIC | Modifier.FINAL), Modifier.PUBLIC | Modifier.FINAL);
        methods(c, face);
        constants(c, face);
        hidden(c, face);
        c.end();
    }

    private static void methods(Checks c, Class<?> face) {
        TreeSet<String> got = new TreeSet<>();
        for (Method m : face.getDeclaredMethods()) {
            if (!Modifier.isPrivate(m.getModifiers())) {
                got.add(m.toString());
            }
        }
        TreeSet<String> want = new TreeSet<>(Arrays.asList(
            "public int SyntaxRows.feed(int,long) throws java.lang.IllegalArgumentException",
            "public int SyntaxRows.wipe()",
            "public int SyntaxRows.read()",
            "public int SyntaxRows.object(int,int) throws java.lang.IndexOutOfBoundsException",
            "public int SyntaxRows.find(int,int)",
            "public int SyntaxRows.value(int,int) throws java.lang.IndexOutOfBoundsException",
            "public long SyntaxRows.number(int) throws java.lang.IndexOutOfBoundsException",
            "public int SyntaxRows.byteOf(int,int) throws java.lang.IndexOutOfBoundsException",
            "public int SyntaxRows.child(int,int) throws java.lang.IndexOutOfBoundsException",
            "public int SyntaxRows.lookup(int,int) throws java.lang.IndexOutOfBoundsException",
            "public int SyntaxRows.write(int,boolean,boolean) throws java.lang.IndexOutOfBoundsException",
            "public int SyntaxRows.out(int)",
            "public int SyntaxRows.take()",
            "public int SyntaxRows.told(int) throws java.lang.IndexOutOfBoundsException"));
        c.dueText("methods", got.toString(), want.toString());
        TreeSet<String> makers = new TreeSet<>();
        for (Constructor<?> m : face.getDeclaredConstructors()) {
            makers.add(m.toString());
        }
        c.dueText("constructors", makers.toString(), "[public SyntaxRows()]");
    }

    private static void constants(Checks c, Class<?> face) {
        String[] names = {"NONE", "NULL", "TRUTH", "WHOLE", "REAL", "NAME", "STRING", "ARRAY", "DICTIONARY", "REFERENCE",
            "STREAM", "ODD", "DOUBLE", "LIES"};
        int[] due = {-1, 0, 1, 2, 3, 4, 5, 6, 7, 8, 9, 1, 2, 4};
        for (int i = 0; i < names.length; i++) {
            try {
                c.due(names[i], face.getField(names[i]).getInt(null), due[i]);
            } catch (ReflectiveOperationException e) {
                c.dueText(names[i], e.toString(), "a constant");
            }
        }
        c.due("public fields", face.getFields().length, names.length);
    }

    private static void hidden(Checks c, Class<?> face) {
        for (Field f : face.getDeclaredFields()) {
            int m = f.getModifiers();
            boolean right = Modifier.isFinal(m) && (Modifier.isPrivate(m) || Modifier.isPublic(m) && Modifier.isStatic(m));
            c.due(f + " is private, or a public constant", right ? 1 : 0, 1);
        }
        for (Class<?> inside : face.getDeclaredClasses()) {
            c.due(inside + " is static", Modifier.isStatic(inside.getModifiers()) ? 1 : 0, 1);
        }
    }
}
