import java.lang.reflect.Constructor;
import java.lang.reflect.Field;
import java.lang.reflect.Method;
import java.lang.reflect.Modifier;
import java.util.List;
import java.util.NoSuchElementException;
import java.util.TreeSet;

/** The face of the document, just as it is there, and what LANGUAGE.md asks of members (rules 1, 2, 5, 11). */
public final class FaceTest {
    private static final Class<?> I = int.class;
    private static final Class<?> B = boolean.class;
    private static final Class<?> SCENE = NoSuchElementException.class;
    private static final Class<?> INDEX = IndexOutOfBoundsException.class;
    private static final Class<?> BAD = IllegalArgumentException.class;
    private static final TreeSet<String> FACE = new TreeSet<>();

    public static void main(String[] args) throws Exception {
        told(I, "feed", 5);
        for (String name : List.of("scene", "task", "law", "fits", "wrong")) {
            told(I, name, 1, BAD);
        }
        for (String name : List.of("fault", "best", "next", "image", "restore")) {
            told(I, name, 0);
        }
        told(I, "count", 1);
        told(I, "told", 2, SCENE, BAD);
        told(I, "thing", 4, SCENE, BAD);
        told(I, "kept", 2, INDEX, BAD);
        told(I, "throwsOf", 2, SCENE, INDEX);
        told(I, "looker", new Class<?>[] {I, I, B}, SCENE, INDEX);
        told(I, "eyes", 4, BAD);
        told(I, "blink", 3, BAD);
        told(I, "eye", 2, BAD);
        told(I, "on", 2, BAD);
        told(I, "name", 4, BAD);
        told(I, "gets", 5, INDEX, BAD);
        told(I, "seen", 3, INDEX, BAD);
        told(B, "says", 3, INDEX, BAD);
        told(I, "miss", 3, INDEX, BAD);
        told(I, "drawn", 4, INDEX, BAD);
        told(I, "change", 2, INDEX, BAD);
        told(I, "yet", 1, INDEX);
        told(I, "least", 3, INDEX, BAD);
        told(I, "answer", new Class<?>[] {I, I, B}, BAD);
        told(I, "counted", 2, BAD);
        told(I, "sure", 2, BAD);
        told(I, "share", 4, SCENE, INDEX, BAD);
        told(I, "guessed", 4, SCENE, INDEX, BAD);
        told(I, "apart", 6, SCENE, INDEX, BAD);
        told(I, "gone", 3, SCENE, INDEX, BAD);
        told(I, "lost", 1, BAD);
        told(I, "cost", 3, SCENE, INDEX);
        told(I, "off", 3, SCENE, INDEX, BAD);
        told(I, "weigh", 2, INDEX, BAD);
        told(long.class, "odds", 1, INDEX);
        told(I, "knowing", 2, INDEX, BAD);
        told(I, "crossing", 4, SCENE, INDEX, BAD);
        Due.is("methods of the face", FACE.size(), 44);
        members();
        Due.end("FaceTest");
    }

    private static void told(Class<?> answer, String name, int ints, Class<?>... thrown) throws Exception {
        Class<?>[] parameters = new Class<?>[ints];
        java.util.Arrays.fill(parameters, I);
        told(answer, name, parameters, thrown);
    }

    private static void told(Class<?> answer, String name, Class<?>[] parameters, Class<?>... thrown) throws Exception {
        FACE.add(name);
        Method m = MiddleUnseen.class.getDeclaredMethod(name, parameters);
        Due.is(name + " is public", Modifier.isPublic(m.getModifiers()) && !Modifier.isStatic(m.getModifiers()), true);
        Due.is(name + " answers " + answer, m.getReturnType() == answer, true);
        Due.is(name + " throws as told", List.of(m.getExceptionTypes()).equals(List.of(thrown)), true);
    }

    private static void members() throws Exception {
        Class<?> face = MiddleUnseen.class;
        Due.is("public and final", Modifier.isPublic(face.getModifiers()) && Modifier.isFinal(face.getModifiers()), true);
        for (Method m : face.getDeclaredMethods()) {
            boolean told = FACE.contains(m.getName());
            Due.is(m.getName() + " is of the face or private", Modifier.isPrivate(m.getModifiers()) != told, true);
            Due.is("parameters of " + m.getName(), m.getParameterCount() <= 7, true);
        }
        for (Field f : face.getDeclaredFields()) {
            boolean none = f.getName().equals("NONE");
            Due.is(f.getName() + " is private, or NONE", Modifier.isPrivate(f.getModifiers()) != none, true);
        }
        Constructor<?>[] made = face.getDeclaredConstructors();
        Due.is("one constructor", made.length == 1 && Modifier.isPublic(made[0].getModifiers())
                && made[0].getParameterCount() == 0, true);
        Due.is("classes", face.getDeclaredClasses().length <= 11, true);
        for (Class<?> c : face.getDeclaredClasses()) {
            Due.is(c + " is static", Modifier.isStatic(c.getModifiers()) && !Modifier.isPublic(c.getModifiers()), true);
            inside(c);
        }
    }

    private static void inside(Class<?> c) {
        int fields = 0;
        for (Field f : c.getDeclaredFields()) {
            boolean isStatic = Modifier.isStatic(f.getModifiers());
            fields += isStatic ? 0 : 1;
            Due.is(c + "." + f.getName() + " is final, if static", !isStatic || Modifier.isFinal(f.getModifiers()), true);
        }
        Due.is("fields of " + c, fields <= 20, true);
        for (Method m : c.getDeclaredMethods()) {
            Due.is(c + "." + m.getName() + " bears no name of the face", FACE.contains(m.getName()), false);
            Due.is("parameters of " + m.getName(), m.getParameterCount() <= 7, true);
        }
    }
}
