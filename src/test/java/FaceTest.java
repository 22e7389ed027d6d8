import java.io.IOException;
import java.lang.reflect.Field;
import java.lang.reflect.Member;
import java.lang.reflect.Method;
import java.lang.reflect.Modifier;
import java.nio.file.Files;
import java.nio.file.Path;
import java.util.Arrays;
import java.util.Set;
import java.util.TreeSet;
import java.util.regex.Pattern;

/** The face of the document, and those rules of LANGUAGE.md that can be read off the class and its source. */
public final class FaceTest {
    private static final Due due = new Due();
    private static final String FACE = "feed(int) county() fault() told(int) heir(int,int) thing(int,int) want(int,int)"
        + " known(int,int) logged(int,int) hour(int) put(int,int) note(int,int) eclipse(int) drift(int) undo(int)"
        + " whose(int) gets(int,int) willBe(int,int) next(int) keepSo(int,int,int,int,int) agreed(int)"
        + " against(int,int) movers(int,int,int) poorest(int) light(int) child(int,int) clear(int,int)"
        + " find(int,int,boolean) fits(int) lookAt() write(int,int) judge() tear() seed(int) keep(int) goBack(int)";

    public static void main(String[] args) throws IOException {
        constants();
        members();
        names();
        source();
        due.finish();
    }

    private static void constants() {
        due.is("NONE", ThreeHeirs.NONE, -1);
        due.is("UNKNOWN", ThreeHeirs.UNKNOWN, -1000000001);
        due.is("OUTSIDE", ThreeHeirs.OUTSIDE, -1000000002);
        due.is("NOT", ThreeHeirs.NOT, -1000000003);
        due.is("FULL", ThreeHeirs.FULL, -1000000004);
    }

    private static Set<String> openMethods() {
        Set<String> open = new TreeSet<>();
        for (Method m : ThreeHeirs.class.getDeclaredMethods()) {
            if (isOpen(m)) {
                String types = Arrays.toString(m.getParameterTypes()).replaceAll("[\\[\\] ]", "");
                open.add(m.getName() + "(" + types + ")");
                due.isTrue(m + " is public and answers an int",
                    Modifier.isPublic(m.getModifiers()) && m.getReturnType() == int.class);
            }
        }
        return open;
    }

    private static boolean isOpen(Member m) {
        return !m.isSynthetic() && !Modifier.isPrivate(m.getModifiers());
    }

    private static void members() {
        due.isTrue("the class is final", Modifier.isFinal(ThreeHeirs.class.getModifiers()));
        due.isTrue("the methods are the document's", openMethods().equals(new TreeSet<>(Arrays.asList(FACE.split(" ")))));
        due.is("constructors", ThreeHeirs.class.getDeclaredConstructors().length, 1);
        due.is("public constructors", ThreeHeirs.class.getConstructors().length, 1);
        Set<String> fields = new TreeSet<>();
        for (Field f : ThreeHeirs.class.getDeclaredFields()) {
            if (isOpen(f)) {
                fields.add(f.getName());
            }
        }
        due.isTrue("the constants are the document's", fields.toString().equals("[FULL, NONE, NOT, OUTSIDE, UNKNOWN]"));
    }

    private static void names() {
        Set<String> open = new TreeSet<>();
        for (String face : FACE.split(" ")) {
            open.add(face.substring(0, face.indexOf('(')));
        }
        for (Class<?> inside : ThreeHeirs.class.getDeclaredClasses()) {
            due.isTrue(inside + " is static", Modifier.isStatic(inside.getModifiers()));
            for (Method m : inside.getDeclaredMethods()) {
                due.isTrue(m + " has a name of its own", m.isSynthetic() || !open.contains(m.getName()));
            }
        }
        for (Method m : ThreeHeirs.class.getDeclaredMethods()) {
            boolean isHidden = Modifier.isPrivate(m.getModifiers()) && !m.isSynthetic();
            due.isTrue(m + " has a name of its own", !isHidden || !open.contains(m.getName()));
            due.isTrue(m + " takes seven at most", m.getParameterCount() <= 7);
        }
        due.isTrue("some twelve classes at most", ThreeHeirs.class.getDeclaredClasses().length < 12);
    }

    private static void source() throws IOException {
        String code = Files.readString(Path.of("src/main/java/ThreeHeirs.java"));
        code = code.replaceAll("(?s)/\\*.*?\\*/", " ").replaceAll("//[^\n]*", " ");
        String[] banned = {"\\b(throw|throws|try|catch|synchronized|assert|import|package|protected)\\b", "->", "::", "@",
            "\\bnull\\b", "\\b(hashCode|toString|getClass|Object|Random|Thread)\\b"};
        for (String rule : banned) {
            due.isTrue("no " + rule + " in the source", !Pattern.compile(rule).matcher(code).find());
        }
    }
}
