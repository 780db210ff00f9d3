import java.lang.reflect.Constructor;
import java.lang.reflect.Field;
import java.lang.reflect.Method;
import java.lang.reflect.Modifier;
import java.util.Arrays;
import java.util.TreeSet;

/** The class has the document's face and nothing else that is not private (rule 1 of LANGUAGE.md). */
public final class FaceTest {
    public static void main(String[] args) {
        String want = String.join("\n", new TreeSet<>(Arrays.asList(
            "public SeaReceiver()",
            "public static final int SeaReceiver.NONE",
            "public int SeaReceiver.feed(int,int,int,int,int)",
            "public boolean SeaReceiver.end(int)",
            "public int SeaReceiver.stream()",
            "public int SeaReceiver.count(int)",
            "public int SeaReceiver.fix(int) throws java.util.NoSuchElementException",
            "public int SeaReceiver.find(int)",
            "public int SeaReceiver.vessel(int,int) throws java.util.NoSuchElementException",
            "public int SeaReceiver.letter(int,int,int)",
            "public int SeaReceiver.bits(int,int) throws java.util.NoSuchElementException",
            "public int SeaReceiver.send(int,int,int) throws java.util.NoSuchElementException,"
                + "java.lang.IllegalArgumentException",
            "public int SeaReceiver.out(int)",
            "public int SeaReceiver.again()",
            "public void SeaReceiver.clear()")));
        TreeSet<String> got = new TreeSet<>();
        TreeSet<String> openNames = new TreeSet<>();
        for (Constructor<?> c : SeaReceiver.class.getDeclaredConstructors()) {
            got.add(c.toString());
        }
        for (Field f : SeaReceiver.class.getDeclaredFields()) {
            if (!Modifier.isPrivate(f.getModifiers())) {
                got.add(f.toString());
            }
        }
        for (Method m : SeaReceiver.class.getDeclaredMethods()) {
            if (!Modifier.isPrivate(m.getModifiers())) {
                got.add(m.toString());
                openNames.add(m.getName());
            }
        }
        Bench.due("the face", want, String.join("\n", got));
        Bench.due("public and final", Modifier.PUBLIC | Modifier.FINAL, SeaReceiver.class.getModifiers());
        Bench.due("NONE", Integer.MIN_VALUE, SeaReceiver.NONE);
        for (Method m : SeaReceiver.class.getDeclaredMethods()) {
            boolean same = Modifier.isPrivate(m.getModifiers()) && openNames.contains(m.getName());
            Bench.due("private with a public name: " + m.getName(), 0, same ? 1 : 0);
        }
        Bench.finish();
    }
}
