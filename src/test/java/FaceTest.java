import java.lang.reflect.Constructor;
import java.lang.reflect.Field;
import java.lang.reflect.Member;
import java.lang.reflect.Method;
import java.lang.reflect.Modifier;
import java.util.Set;
import java.util.TreeSet;

/** The public face is that of the document, and nothing else of the class can be seen. */
public final class FaceTest {
    private static final String[] FACE = {
        "public boolean BandPress.type(long,int)",
        "public int BandPress.start(int,boolean,int)",
        "public int BandPress.run(int) throws java.lang.IllegalStateException,java.lang.IllegalArgumentException",
        "public int BandPress.job(int)",
        "public int BandPress.value(int) throws java.util.NoSuchElementException",
        "public int BandPress.variable(int)",
        "public boolean BandPress.pixel(int,int,int)",
        "public int BandPress.band(int,int)",
        "public int BandPress.octet(int,int,int)",
        "public int BandPress.tick(int) throws java.lang.IllegalArgumentException",
        "public boolean BandPress.stick(int,boolean)",
        "public boolean BandPress.take(int)",
        "public int BandPress.load(int)",
        "public boolean BandPress.cover(boolean)",
        "public int BandPress.section(int,int)",
        "public int BandPress.out(int,int)",
        "public int BandPress.press(int)",
        "public BandPress()",
        "public static final int BandPress.NONE"};

    public static void main(String[] args) {
        Set<String> due = new TreeSet<>(Set.of(FACE));
        Set<String> seen = new TreeSet<>();
        Set<String> names = new TreeSet<>();
        for (Method method : BandPress.class.getDeclaredMethods()) {
            if (see(method)) {
                seen.add(method.toString());
                names.add(method.getName());
            }
        }
        for (Field field : BandPress.class.getDeclaredFields()) {
            if (see(field)) {
                seen.add(field.toString());
            }
        }
        for (Constructor<?> constructor : BandPress.class.getDeclaredConstructors()) {
            seen.add(constructor.toString());
        }
        for (String member : due) {
            Check.due("whether there is " + member, seen.contains(member), true);
        }
        for (String member : seen) {
            Check.due("whether the document has " + member, due.contains(member), true);
        }
        Check.due("whether the class is public and final", BandPress.class.getModifiers(), Modifier.PUBLIC | Modifier.FINAL);
        Check.due("NONE", BandPress.NONE, -1);
        for (Class<?> inside : BandPress.class.getDeclaredClasses()) {
            Check.due("whether " + inside + " is static", Modifier.isStatic(inside.getModifiers()), true);
            for (Method method : inside.getDeclaredMethods()) {
                Check.due("whether " + method + " bears a public name", names.contains(method.getName()), false);
            }
        }
        Check.end();
    }

    private static boolean see(Member member) {
        return !Modifier.isPrivate(member.getModifiers()) && !member.isSynthetic();
    }
}
