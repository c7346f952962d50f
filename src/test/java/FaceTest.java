import java.lang.reflect.Constructor;
import java.lang.reflect.Field;
import java.lang.reflect.Member;
import java.lang.reflect.Method;
import java.lang.reflect.Modifier;
import java.util.ArrayList;
import java.util.Arrays;
import java.util.Collections;
import java.util.List;

/** The class has the document's public face and no other member that is not private. */
public final class FaceTest {
    private static final String[] FACE = {
        "public boolean RasterCover.same(int)",
        "public byte RasterCover.packed(int) throws java.lang.ArrayIndexOutOfBoundsException",
        "public int RasterCover.band(int,int)",
        "public int RasterCover.clip(int) throws java.lang.IllegalArgumentException",
        "public int RasterCover.cover(int,int) throws java.lang.ArrayIndexOutOfBoundsException",
        "public int RasterCover.end()",
        "public int RasterCover.fill(int,int,int) throws java.lang.IllegalArgumentException,java.lang.ArrayIndexOutOfBoundsException",
        "public int RasterCover.hair(long,long,long,long) throws java.lang.UnsupportedOperationException",
        "public int RasterCover.line(long,long) throws java.lang.IllegalStateException,java.lang.UnsupportedOperationException",
        "public int RasterCover.move(long,long) throws java.lang.UnsupportedOperationException",
        "public int RasterCover.over(int,boolean) throws java.lang.ArrayIndexOutOfBoundsException",
        "public int RasterCover.point(int,int,int) throws java.lang.ArrayIndexOutOfBoundsException",
    };

    public static void main(String[] args) {
        Check.due("modifiers of the class", RasterCover.class.getModifiers(), Modifier.PUBLIC | Modifier.FINAL);
        checkMethods();
        checkConstructors();
        checkFields();
        Check.finish();
    }

    private static void checkMethods() {
        List<String> seen = new ArrayList<>();
        List<String> names = new ArrayList<>();
        for (Method method : RasterCover.class.getDeclaredMethods()) {
            if (!isPrivate(method)) {
                seen.add(method.toString());
                names.add(method.getName());
            }
        }
        Collections.sort(seen);
        System.out.print(seen.equals(Arrays.asList(FACE)) ? "" : "the face is " + seen + "\n");
        Check.due("the methods are the face's", seen.equals(Arrays.asList(FACE)), true);
        for (Method method : RasterCover.class.getDeclaredMethods()) {
            if (isPrivate(method)) {
                Check.due(method.getName() + " bears a public name", names.contains(method.getName()), false);
            }
        }
    }

    private static void checkConstructors() {
        Constructor<?>[] made = RasterCover.class.getDeclaredConstructors();
        Check.due("constructors", made.length, 1);
        Check.due("the constructor", made[0].toString().equals("public RasterCover(int,int,int)"), true);
    }

    private static void checkFields() {
        for (Field field : RasterCover.class.getDeclaredFields()) {
            Check.due(field.getName() + " is private", isPrivate(field), true);
            Check.due(field.getName() + " is final, if static",
                    !Modifier.isStatic(field.getModifiers()) || Modifier.isFinal(field.getModifiers()), true);
        }
        for (Class<?> inside : RasterCover.class.getDeclaredClasses()) {
            Check.due(inside + " is static", Modifier.isStatic(inside.getModifiers()), true);
            Check.due(inside + " is public or protected",
                    Modifier.isPublic(inside.getModifiers()) || Modifier.isProtected(inside.getModifiers()), false);
        }
    }

    private static boolean isPrivate(Member member) {
        return Modifier.isPrivate(member.getModifiers());
    }
}
