import java.lang.reflect.Constructor;
import java.lang.reflect.Executable;
import java.lang.reflect.Field;
import java.lang.reflect.Method;
import java.lang.reflect.Modifier;
import java.util.Arrays;
import java.util.Set;
import java.util.TreeSet;

/** The class shows the document's face and nothing beside it. */
public final class FaceTests {
    private static final String[] FACE = {
        "public static final int NONE",
        "public SpectrumHeads(int)",
        "public boolean white(int, int) throws ArrayIndexOutOfBoundsException",
        "public boolean dark(int, int)",
        "public boolean value(int, int)",
        "public boolean reference(int, int, long)",
        "public int teach(int)",
        "public int read()",
        "public long sum(int)",
        "public boolean bound(long)",
        "public boolean worth(int, long)",
        "public int leftOut(int)",
        "public long wrong(int, int)",
        "public int correct(int, int)",
        "public boolean pixel(int, int)",
        "public int piece(int, int)",
        "public int pieceKind(int)",
        "public int neighbours(int)",
        "public int pack(int)",
        "public boolean feed(int)",
        "public int open()",
    };

    public static void main(String[] args) {
        Due.is("the class's modifiers", SpectrumHeads.class.getModifiers(), Modifier.PUBLIC | Modifier.FINAL);
        Set<String> shown = shown();
        for (String member : FACE) {
            Due.yes("the face has " + member, shown.remove(member));
        }
        for (String member : shown) {
            Due.no("the class shows " + member, true);
        }
        privateNames();
        for (Class<?> inside : SpectrumHeads.class.getDeclaredClasses()) {
            Due.yes(inside + " is static", Modifier.isStatic(inside.getModifiers()));
            Due.no(inside + " is public or protected",
                (inside.getModifiers() & (Modifier.PUBLIC | Modifier.PROTECTED)) != 0);
        }
        Due.end();
    }

    private static Set<String> shown() {
        Set<String> shown = new TreeSet<>();
        for (Field f : SpectrumHeads.class.getDeclaredFields()) {
            if (!Modifier.isPrivate(f.getModifiers())) {
                shown.add(Modifier.toString(f.getModifiers()) + " " + f.getType().getSimpleName() + " " + f.getName());
            }
        }
        for (Constructor<?> c : SpectrumHeads.class.getDeclaredConstructors()) {
            if (!Modifier.isPrivate(c.getModifiers())) {
                shown.add(Modifier.toString(c.getModifiers()) + " SpectrumHeads" + behind(c));
            }
        }
        for (Method m : SpectrumHeads.class.getDeclaredMethods()) {
            if (!Modifier.isPrivate(m.getModifiers())) {
                shown.add(Modifier.toString(m.getModifiers()) + " " + m.getReturnType().getSimpleName()
                    + " " + m.getName() + behind(m));
            }
        }
        return shown;
    }

    private static String behind(Executable e) {
        String thrown = names(e.getExceptionTypes());
        return "(" + names(e.getParameterTypes()) + ")" + (thrown.isEmpty() ? "" : " throws " + thrown);
    }

    private static String names(Class<?>[] types) {
        return String.join(", ", Arrays.stream(types).map(Class::getSimpleName).toList());
    }

    private static void privateNames() {
        Set<String> open = new TreeSet<>();
        for (Method m : SpectrumHeads.class.getMethods()) {
            open.add(m.getName());
        }
        for (Method m : SpectrumHeads.class.getDeclaredMethods()) {
            Due.no("private " + m.getName() + " bears a public name",
                Modifier.isPrivate(m.getModifiers()) && open.contains(m.getName()));
        }
    }
}
