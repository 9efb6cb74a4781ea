import java.lang.reflect.Constructor;
import java.lang.reflect.Field;
import java.lang.reflect.Method;
import java.lang.reflect.Modifier;
import java.util.Arrays;
import java.util.Set;
import java.util.TreeSet;

/** The public face of the document, and nothing beside it (rule 1 of the language). */
public final class FaceTest {
    private static final String[] DUE = {
        "public static final int SplitDesk.NONE",
        "public SplitDesk()",
        "public boolean SplitDesk.deal(int,int,int,long,long)",
        "public boolean SplitDesk.put(int,int,long)",
        "public boolean SplitDesk.lose(int,int)",
        "public boolean SplitDesk.join(int,int,int,int)",
        "public boolean SplitDesk.scale(int,long,long)",
        "public boolean SplitDesk.renew(int,long)",
        "public int SplitDesk.find(int,int) throws java.lang.IllegalArgumentException,java.lang.IllegalStateException",
        "public long SplitDesk.at(long) throws java.util.NoSuchElementException",
        "public long SplitDesk.part(int) throws java.util.NoSuchElementException",
        "public boolean SplitDesk.wrong(int)",
        "public boolean SplitDesk.mend()",
        "public long SplitDesk.share(int,int) throws java.util.NoSuchElementException",
        "public int SplitDesk.split(int,int)",
    };

    public static void main(String[] args) {
        Class<?> desk = SplitDesk.class;
        Set<String> seen = new TreeSet<>();
        Set<String> publicNames = new TreeSet<>();
        Set<String> privateNames = new TreeSet<>();
        for (Field field : desk.getDeclaredFields()) {
            if (!Modifier.isPrivate(field.getModifiers())) {
                seen.add(field.toString());
            }
            if (Modifier.isStatic(field.getModifiers())) {
                Check.same(field + " is final", Modifier.isFinal(field.getModifiers()), true);
            }
        }
        for (Constructor<?> constructor : desk.getDeclaredConstructors()) {
            seen.add(constructor.toString());
        }
        for (Method method : desk.getDeclaredMethods()) {
            boolean inside = Modifier.isPrivate(method.getModifiers());
            (inside ? privateNames : publicNames).add(method.getName());
            if (!inside) {
                seen.add(method.toString());
            }
        }
        privateNames.retainAll(publicNames);
        Check.same("the face", seen, new TreeSet<>(Arrays.asList(DUE)));
        Check.same("private methods that bear a public one's name", privateNames, "[]");
        Check.same("SplitDesk is", Modifier.toString(desk.getModifiers()), "public final");
        for (Class<?> inside : desk.getDeclaredClasses()) {
            Check.same(inside + " is static", Modifier.isStatic(inside.getModifiers()), true);
        }
        Check.end();
    }
}
