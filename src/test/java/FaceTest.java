import java.lang.reflect.Constructor;
import java.lang.reflect.Field;
import java.lang.reflect.Member;
import java.lang.reflect.Method;
import java.lang.reflect.Modifier;
import java.util.Arrays;
import java.util.TreeSet;

/** The public face: all that the document names, and nothing else that others could see. */
public final class FaceTest {
    public static void main(String[] args) {
        Class<?> face = TermReader.class;
        Due.same("public and final", face.getModifiers(), Modifier.PUBLIC | Modifier.FINAL);
        TreeSet<String> seen = new TreeSet<>();
        for (Constructor<?> c : face.getDeclaredConstructors()) {
            see(seen, c, c.toString());
        }
        for (Method m : face.getDeclaredMethods()) {
            see(seen, m, m.toString());
        }
        for (Field f : face.getDeclaredFields()) {
            see(seen, f, f.toString());
        }
        String argument = "java.lang.IllegalArgumentException";
        String state = "java.lang.IllegalStateException";
        String index = "java.lang.IndexOutOfBoundsException";
        Due.same("the face", seen, new TreeSet<>(Arrays.asList(
            "public TermReader()",
            "public boolean TermReader.text(long)",
            "public void TermReader.op(int,int,long) throws " + argument + "," + state,
            "public int TermReader.read() throws " + argument + "," + index,
            "public int TermReader.write(int) throws " + index,
            "public int TermReader.written(int)",
            "public boolean TermReader.again()",
            "public boolean TermReader.alike(int,int) throws " + index,
            "public int TermReader.look(int,int) throws " + index + "," + argument,
            "public int TermReader.count(int) throws " + argument)));
        Due.close();
    }

    private static void see(TreeSet<String> seen, Member member, String as) {
        if (!Modifier.isPrivate(member.getModifiers()) && !member.isSynthetic()) {
            seen.add(as);
        }
    }
}
