import java.io.IOException;
import java.lang.reflect.Constructor;
import java.lang.reflect.Field;
import java.lang.reflect.Method;
import java.lang.reflect.Modifier;
import java.nio.file.Files;
import java.nio.file.Path;
import java.util.TreeSet;
import java.util.regex.Pattern;

/** The public face, and those rules of LANGUAGE.md that can be told from the text. */
public final class SourceTest {
    private static final String FACE = "[boolean isBelow(int,int), boolean overrides(int,int),"
        + " int add(int,int,int), int broken(int), int choose(int,int), int face(int,int),"
        + " int find(int,int), int implement(int,int), int kin(int),"
        + " int method(int,int,int,int), int nearest(int,int,int), int special(int,int,int)]";

    private static final String[] BARRED = {"\\bthrow\\b", "\\btry\\b", "\\bcatch\\b",
        "\\bsynchronized\\b", "\\bassert\\b", "->", "::", "\\bimport\\b", "\\bpackage\\b",
        "\\bSystem\\.(?!arraycopy)", "\\w+Exact\\b", "\\bstatic \\{"};

    public static void main(String[] args) throws IOException {
        Check check = new Check();
        face(check);
        text(check);
        check.end();
    }

    private static void face(Check check) {
        TreeSet<String> seen = new TreeSet<>();
        TreeSet<String> hidden = new TreeSet<>();
        TreeSet<String> publicNames = new TreeSet<>();
        for (Method m : ChooseTree.class.getDeclaredMethods()) {
            if (Modifier.isPrivate(m.getModifiers())) {
                hidden.add(m.getName());
            } else if (!m.isSynthetic()) {
                check.due(m.getName() + " is public", Modifier.isPublic(m.getModifiers()), true);
                seen.add(words(m));
                publicNames.add(m.getName());
            }
        }
        check.due("the face is " + seen + ": as the document's", seen.toString().equals(FACE), true);
        hidden.retainAll(publicNames);
        check.due("private methods with public names: " + hidden, hidden.isEmpty(), true);
        for (Field f : ChooseTree.class.getDeclaredFields()) {
            check.due(f.getName() + " is private", Modifier.isPrivate(f.getModifiers()), true);
            check.due(f.getName() + " is final", Modifier.isFinal(f.getModifiers()), true);
        }
        Constructor<?>[] made = ChooseTree.class.getDeclaredConstructors();
        check.due("constructors", made.length, 1);
        check.due("its parameters", made[0].getParameterCount(), 0);
        check.due("it is public", Modifier.isPublic(made[0].getModifiers()), true);
        check.due("the class is final", Modifier.isFinal(ChooseTree.class.getModifiers()), true);
    }

    private static String words(Method m) {
        StringBuilder text = new StringBuilder(m.getReturnType() + " " + m.getName() + "(");
        for (int i = 0; i < m.getParameterCount(); i++) {
            text.append(i == 0 ? "" : ",").append(m.getParameterTypes()[i]);
        }
        return text.append(")").toString();
    }

    private static void text(Check check) throws IOException {
        String source = Files.readString(Path.of("src/main/java/ChooseTree.java"));
        String code = source.replaceAll("(?s)/\\*.*?\\*/", "").replaceAll("//.*", "");
        for (String barred : BARRED) {
            boolean found = Pattern.compile(barred).matcher(code).find();
            check.due("the source has " + barred, found, false);
        }
    }
}
