import java.io.IOException;
import java.lang.reflect.Constructor;
import java.lang.reflect.Field;
import java.lang.reflect.Method;
import java.lang.reflect.Modifier;
import java.nio.file.Files;
import java.nio.file.Path;
import java.util.ArrayList;
import java.util.List;
import java.util.TreeMap;
import java.util.TreeSet;

/** The public face of the document, and the rules of LANGUAGE.md that a program can look at. */
public final class FaceTest {
    /** The heads of the methods, as the section "The public face" of the document has them. */
    private static final String[] FACE = {
        "public int section(int area, int shade)"
            + " throws IllegalArgumentException, IllegalStateException",
        "public int pass(int warmth, int wet, int days)"
            + " throws IllegalArgumentException",
        "public int prune(int section)"
            + " throws IndexOutOfBoundsException",
        "public int spray(int section)"
            + " throws IndexOutOfBoundsException",
        "public int pluck(int section, int standard, int hands)"
            + " throws IndexOutOfBoundsException, IllegalArgumentException, IllegalStateException",
        "public int join(int lot, int other)"
            + " throws IndexOutOfBoundsException, IllegalArgumentException, IllegalStateException",
        "public int wither(int lot, int hours, int air)"
            + " throws IndexOutOfBoundsException, IllegalArgumentException, IllegalStateException",
        "public int kill(int lot)"
            + " throws IndexOutOfBoundsException, IllegalStateException",
        "public int roll(int lot, int force)"
            + " throws IndexOutOfBoundsException, IllegalArgumentException, IllegalStateException",
        "public int rest(int lot, int quarters, int warmth)"
            + " throws IndexOutOfBoundsException, IllegalArgumentException, IllegalStateException",
        "public int fire(int lot, int heat, int minutes)"
            + " throws IndexOutOfBoundsException, IllegalArgumentException, IllegalStateException",
        "public int sort(int lot)"
            + " throws IndexOutOfBoundsException, IllegalStateException",
        "public int mix(int lot, int units, int other, int otherUnits)"
            + " throws IndexOutOfBoundsException, IllegalArgumentException, IllegalStateException",
        "public int lean(int taster, int by)"
            + " throws IndexOutOfBoundsException, IllegalArgumentException",
        "public int repeat(int taster, int lot)"
            + " throws IndexOutOfBoundsException, IllegalStateException",
        "public int purse(int buyer, int more)"
            + " throws IndexOutOfBoundsException, IllegalArgumentException",
        "public int offer(int lot, int reserve)"
            + " throws IndexOutOfBoundsException, IllegalArgumentException, IllegalStateException",
        "public int bid(int buyer, int lot, int price)"
            + " throws IndexOutOfBoundsException, IllegalArgumentException, IllegalStateException",
        "public int knock(int lot)"
            + " throws IndexOutOfBoundsException, IllegalStateException",
        "public int ofSection(int section, int what)"
            + " throws IndexOutOfBoundsException, IllegalArgumentException",
        "public int ofLot(int lot, int what)"
            + " throws IndexOutOfBoundsException, IllegalArgumentException",
        "public int note(int lot, int note)"
            + " throws IndexOutOfBoundsException, IllegalArgumentException, IllegalStateException",
        "public int taste(int lot, int note)"
            + " throws IndexOutOfBoundsException, IllegalArgumentException, IllegalStateException",
        "public int ofTaster(int taster, int what)"
            + " throws IndexOutOfBoundsException, IllegalArgumentException",
        "public int bidOf(int buyer, int lot)"
            + " throws IndexOutOfBoundsException",
        "public int many(int what)"
            + " throws IllegalArgumentException",
        "public double meanNotes()",
        "public int flushIn(int section, int warmth, int wet)"
            + " throws IndexOutOfBoundsException, IllegalArgumentException",
        "public int bestFire(int lot)"
            + " throws IndexOutOfBoundsException, IllegalStateException",
        "public int bestMix(int body, int brisk, int aroma)"
            + " throws IllegalArgumentException",
        "public int wouldPay(int lot)"
            + " throws IndexOutOfBoundsException, IllegalStateException",
        "public long digest()"};

    private static final String[] RULED_OUT = {"import ", "catch", "finally", "Exact(", "->", "::", "synchronized",
        "assert ", "System.", "protected ", "native ", "java.util", "Object", "_VALUE"};

    private static String names(Class<?>[] types) {
        List<String> names = new ArrayList<>();
        for (Class<?> type : types) {
            names.add(type.getSimpleName());
        }
        return String.join(", ", names);
    }

    private static String told(Method m) {
        String head = "public " + m.getReturnType().getSimpleName() + " " + m.getName()
            + "(" + names(m.getParameterTypes()) + ")";
        return m.getExceptionTypes().length == 0 ? head : head + " throws " + names(m.getExceptionTypes());
    }

    /** What a class file keeps of a head: all but the names of the parameters. */
    private static String withoutNames(String head) {
        return head.replaceAll("int \\w+([,)])", "int$1");
    }

    /** Each head with what it throws, in that order, as the compiled class tells it; and no other method. */
    private static void face() {
        TreeMap<String, String> shown = new TreeMap<>();
        for (Method m : FlushGarden.class.getDeclaredMethods()) {
            if (!Modifier.isPrivate(m.getModifiers())) {
                Due.is(m + " is public and not static", m.getModifiers(), Modifier.PUBLIC);
                shown.put(told(m), m.getName());
            }
        }
        TreeSet<String> wanted = new TreeSet<>();
        for (String head : FACE) {
            wanted.add(withoutNames(head));
        }
        for (String head : wanted) {
            Due.is("in the class: " + head, shown.containsKey(head) ? 1 : 0, 1);
        }
        for (String head : shown.keySet()) {
            Due.is("in the document: " + head, wanted.contains(head) ? 1 : 0, 1);
        }
        for (Method m : FlushGarden.class.getDeclaredMethods()) {
            boolean bears = Modifier.isPrivate(m.getModifiers()) && shown.containsValue(m.getName());
            Due.is(m + " bears a public one's name", bears ? 1 : 0, 0);
        }
        Constructor<?>[] made = FlushGarden.class.getDeclaredConstructors();
        Due.is("constructors", made.length, 1);
        Due.is("its modifiers", made[0].getModifiers(), Modifier.PUBLIC);
        Due.is("its parameters", made[0].getParameterCount(), 0);
        Due.is("the class is public and final", FlushGarden.class.getModifiers(), Modifier.PUBLIC | Modifier.FINAL);
    }

    private static void members() {
        int fields = 0;
        for (Field f : FlushGarden.class.getDeclaredFields()) {
            Due.is(f + " is private", Modifier.isPrivate(f.getModifiers()) ? 1 : 0, 1);
            if (Modifier.isStatic(f.getModifiers())) {
                Due.is(f + " is final", Modifier.isFinal(f.getModifiers()) ? 1 : 0, 1);
            } else {
                fields++;
            }
        }
        Due.is("some twenty fields at most", fields <= 20 ? 1 : 0, 1);
        for (Class<?> inside : FlushGarden.class.getDeclaredClasses()) {
            Due.is(inside + " is static", Modifier.isStatic(inside.getModifiers()) ? 1 : 0, 1);
            Due.is(inside + " is not public", Modifier.isPublic(inside.getModifiers()) ? 1 : 0, 0);
        }
    }

    private static void text() throws IOException {
        String program = Files.readString(Path.of("src/main/java/FlushGarden.java"));
        for (String head : FACE) {
            Due.is("written so in the program: " + head, program.contains("\n    " + head + " {\n") ? 1 : 0, 1);
        }
        for (String ruledOut : RULED_OUT) {
            Due.is("places of '" + ruledOut + "' in the program", program.indexOf(ruledOut), -1);
        }
    }

    public static void main(String[] args) throws IOException {
        face();
        members();
        text();
        Due.end();
    }
}
