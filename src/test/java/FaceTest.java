import java.lang.reflect.Constructor;
import java.lang.reflect.Field;
import java.lang.reflect.Method;
import java.lang.reflect.Modifier;
import java.util.TreeSet;

/** The class has the document's face and no other member that can be seen from outside. */
public final class FaceTest {
    public static void main(String[] args) {
        Due due = new Due();
        TreeSet<String> face = new TreeSet<>();
        for (Field f : MemoryBank.class.getDeclaredFields()) {
            if (!Modifier.isPrivate(f.getModifiers())) {
                face.add(f.toString());
            }
        }
        for (Constructor<?> c : MemoryBank.class.getDeclaredConstructors()) {
            if (!Modifier.isPrivate(c.getModifiers())) {
                face.add(c.toString());
            }
        }
        for (Method m : MemoryBank.class.getDeclaredMethods()) {
            if (!Modifier.isPrivate(m.getModifiers())) {
                face.add(m.toString());
            }
        }
        TreeSet<String> wanted = new TreeSet<>();
        wanted.add("public static final int MemoryBank.NONE");
        wanted.add("public MemoryBank()");
        wanted.add("public int MemoryBank.put(int)");
        wanted.add("public boolean MemoryBank.cut(int)");
        wanted.add("public int MemoryBank.size()");
        wanted.add("public int MemoryBank.rowAt(int)");
        wanted.add("public boolean MemoryBank.load(int,int,int)");
        wanted.add("public boolean MemoryBank.dump(int,int)");
        wanted.add("public int MemoryBank.check(int,int)");
        wanted.add("public int MemoryBank.rowCheck(int)");
        wanted.add("public boolean MemoryBank.seal()");
        wanted.add("public int MemoryBank.at(int)");
        due.is("the face", face, wanted);
        int modifiers = MemoryBank.class.getModifiers();
        due.is("the class's modifiers", Modifier.toString(modifiers), "public final");
        due.is("the class above it", MemoryBank.class.getSuperclass(), Object.class);
        due.is("how many interfaces it has", MemoryBank.class.getInterfaces().length, 0);
        due.end();
    }
}
