import java.io.IOException;
import java.lang.reflect.Constructor;
import java.lang.reflect.Field;
import java.lang.reflect.Method;
import java.lang.reflect.Modifier;
import java.nio.file.Files;
import java.nio.file.Path;
import java.util.TreeSet;

/** The public face of the document, and the rules of LANGUAGE.md that a program can look at. */
public final class FaceTest {
    private static final String FACE = "bestFire(int)int bestMix(int,int,int)int bid(int,int,int)int bidOf(int,int)int"
        + " digest()long fire(int,int,int)int flushIn(int,int,int)int join(int,int)int kill(int)int knock(int)int"
        + " lean(int,int)int many(int)int meanNotes()double mix(int,int,int,int)int note(int,int)int ofLot(int,int)int"
        + " ofSection(int,int)int ofTaster(int,int)int offer(int,int)int pass(int,int,int)int pluck(int,int,int)int"
        + " prune(int)int purse(int,int)int repeat(int,int)int rest(int,int,int)int roll(int,int)int section(int,int)int"
        + " sort(int)int spray(int)int taste(int,int)int wither(int,int,int)int wouldPay(int)int";

    private static final String[] RULED_OUT = {"import ", "catch", "finally", "Exact(", "->", "::", "synchronized",
        "assert ", "System.", "protected ", "native ", "java.util", "Object"};

    private static String told(Method m) {
        StringBuilder text = new StringBuilder(m.getName()).append('(');
        for (Class<?> type : m.getParameterTypes()) {
            text.append(text.charAt(text.length() - 1) == '(' ? "" : ",").append(type.getName());
        }
        return text.append(')').append(m.getReturnType().getName()).toString();
    }

    private static void face() {
        TreeSet<String> shown = new TreeSet<>();
        TreeSet<String> shownNames = new TreeSet<>();
        for (Method m : FlushGarden.class.getDeclaredMethods()) {
            if (!Modifier.isPrivate(m.getModifiers())) {
                Due.is(m + " is public and not static", m.getModifiers(), Modifier.PUBLIC);
                shown.add(told(m));
                shownNames.add(m.getName());
            }
        }
        Due.isText("the face", String.join(" ", shown), FACE);
        for (Method m : FlushGarden.class.getDeclaredMethods()) {
            boolean bears = Modifier.isPrivate(m.getModifiers()) && shownNames.contains(m.getName());
            Due.is(m + " bears a public one's name", bears ? 1 : 0, 0);
        }
        Constructor<?>[] made = FlushGarden.class.getDeclaredConstructors();
        Due.is("constructors", made.length, 1);
        Due.is("its modifiers", made[0].getModifiers(), Modifier.PUBLIC);
        Due.is("its parameters", made[0].getParameterCount(), 0);
        Due.is("the class is public and final", FlushGarden.class.getModifiers(), Modifier.PUBLIC | Modifier.FINAL);
    }

    private static void members() {
        int fields = 0;
        for (Field f : FlushGarden.class.getDeclaredFields()) {
            Due.is(f + " is private", Modifier.isPrivate(f.getModifiers()) ? 1 : 0, 1);
            if (Modifier.isStatic(f.getModifiers())) {
                Due.is(f + " is final", Modifier.isFinal(f.getModifiers()) ? 1 : 0, 1);
            } else {
                fields++;
            }
        }
        Due.is("some twenty fields at most", fields <= 20 ? 1 : 0, 1);
        for (Class<?> inside : FlushGarden.class.getDeclaredClasses()) {
            Due.is(inside + " is static", Modifier.isStatic(inside.getModifiers()) ? 1 : 0, 1);
            Due.is(inside + " is not public", Modifier.isPublic(inside.getModifiers()) ? 1 : 0, 0);
        }
    }

    private static void text() throws IOException {
        String program = Files.readString(Path.of("src/main/java/FlushGarden.java"));
        for (String ruledOut : RULED_OUT) {
            Due.is("places of '" + ruledOut + "' in the program", program.indexOf(ruledOut), -1);
        }
    }

    public static void main(String[] args) throws IOException {
        face();
        members();
        text();
        Due.end();
    }
}
