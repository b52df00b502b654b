import java.lang.reflect.Constructor;
import java.lang.reflect.Field;
import java.lang.reflect.Member;
import java.lang.reflect.Method;
import java.lang.reflect.Modifier;
import java.util.Arrays;
import java.util.TreeSet;

/** The face is the document's and nothing beside it. */
public final class FaceTest {
    public static void main(String[] args) {
        Check check = new Check("FaceTest");
        check.holds("the class is public and final",
            Modifier.isPublic(GuestFrames.class.getModifiers()) && Modifier.isFinal(GuestFrames.class.getModifiers()));
        TreeSet<String> face = new TreeSet<>();
        for (Method method : GuestFrames.class.getDeclaredMethods()) {
            if (!isHidden(method)) face.add(method.toString());
        }
        for (Field field : GuestFrames.class.getDeclaredFields()) {
            if (!isHidden(field)) face.add(field.toString());
        }
        for (Constructor<?> constructor : GuestFrames.class.getDeclaredConstructors()) {
            if (!isHidden(constructor)) face.add(constructor.toString());
        }
        String bounds = "java.lang.IndexOutOfBoundsException";
        String argument = "java.lang.IllegalArgumentException";
        String unsupported = "java.lang.UnsupportedOperationException";
        check.same("the face", face, new TreeSet<>(Arrays.asList(
            "public static final int GuestFrames.NONE",
            "public GuestFrames(int)",
            "public int GuestFrames.feed(int,int,int,int,int,int) throws " + argument + "," + unsupported,
            "public int GuestFrames.type(int,int,int) throws " + bounds + "," + argument + "," + unsupported,
            "public int GuestFrames.handler(int,int,int,int) throws " + argument + "," + unsupported,
            "public int GuestFrames.method(int,int,int,int) throws " + argument + "," + unsupported,
            "public int GuestFrames.run(int,long,long,int) throws " + bounds + "," + argument,
            "public long GuestFrames.result()",
            "public int GuestFrames.steps()",
            "public int GuestFrames.count(int) throws " + bounds)));
        check.due("NONE", GuestFrames.NONE, -1);
        for (Class<?> inside : GuestFrames.class.getDeclaredClasses()) {
            check.holds(inside + " is static", Modifier.isStatic(inside.getModifiers()));
            check.holds(inside + " is not public", !Modifier.isPublic(inside.getModifiers()));
        }
        check.end();
    }

    private static boolean isHidden(Member member) {
        return member.isSynthetic() || Modifier.isPrivate(member.getModifiers());
    }
}
