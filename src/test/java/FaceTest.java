import java.io.IOException;
import java.lang.reflect.Field;
import java.lang.reflect.Method;
import java.lang.reflect.Modifier;
import java.nio.charset.StandardCharsets;
import java.nio.file.Files;
import java.nio.file.Path;
import java.util.Set;
import java.util.TreeSet;
import java.util.regex.Matcher;
import java.util.regex.Pattern;

/** The public face, and those rules of LANGUAGE.md that can be seen from outside. */
public final class FaceTest {
    private static final String[] FACE = {
        "int set(int, int)", "int game(int, int, int, int, int)", "int drop()", "int win(int, int)",
        "long best(int, int)", "long stakes(int, int, int)", "long mean(int, int)", "int tell(int, int)",
        "int stake(int, int, int)", "long plan(int, int, int, int, int)", "int bold(int, int, int)",
        "int count(int)", "long trace()",
    };
    private static final String[] OUTSIDE = {
        "\\bthrow\\b", "\\bthrows\\b", "\\btry\\b", "\\bcatch\\b", "\\bfinally\\b", "\\bsynchronized\\b",
        "\\bassert\\b", "->", "::", "\\bimport\\b", "\\bpackage\\b", "Exact\\(", "@",
    };
    private static int wrong = 0;

    private static void due(String what, Object got, Object want) {
        if (!got.equals(want)) {
            wrong++;
            System.out.println(what + " is " + got + ", due is " + want);
        }
    }

    public static void main(String[] args) throws IOException {
        due("BAD", StakeHouse.BAD, -1);
        due("STATE", StakeHouse.STATE, -2);
        due("FULL", StakeHouse.FULL, -3);
        due("NONE", StakeHouse.NONE, -9);
        due("the class is final", Modifier.isFinal(StakeHouse.class.getModifiers()), true);
        due("public constructors", StakeHouse.class.getConstructors().length, 1);
        methods();
        fields();
        source();
        System.out.println(wrong == 0 ? "all answers are as due" : wrong + " answers are not as due");
        if (wrong != 0) {
            System.exit(1);
        }
    }

    private static void methods() {
        Set<String> face = new TreeSet<>();
        Set<String> publicNames = new TreeSet<>();
        for (Method m : StakeHouse.class.getDeclaredMethods()) {
            if (!Modifier.isPrivate(m.getModifiers())) {
                face.add(told(m));
                publicNames.add(m.getName());
            }
        }
        due("the face", face, new TreeSet<>(Set.of(FACE)));
        privateNames(StakeHouse.class, publicNames);
        for (Class<?> inside : StakeHouse.class.getDeclaredClasses()) {
            due(inside + " is static", Modifier.isStatic(inside.getModifiers()), true);
            privateNames(inside, publicNames);
        }
    }

    private static void privateNames(Class<?> c, Set<String> publicNames) {
        for (Method m : c.getDeclaredMethods()) {
            boolean hidden = c != StakeHouse.class || Modifier.isPrivate(m.getModifiers());
            due(c + " hides " + m.getName(), hidden && publicNames.contains(m.getName()), false);
            due(c + "." + m.getName() + " takes seven at most", m.getParameterCount() <= 7, true);
        }
    }

    private static String told(Method m) {
        StringBuilder b = new StringBuilder(m.getReturnType() + " " + m.getName() + "(");
        for (int i = 0; i < m.getParameterCount(); i++) {
            b.append(i == 0 ? "" : ", ").append(m.getParameterTypes()[i]);
        }
        return b.append(")").toString();
    }

    private static void fields() {
        Set<String> seen = new TreeSet<>();
        int own = 0;
        for (Field f : StakeHouse.class.getDeclaredFields()) {
            if (!Modifier.isPrivate(f.getModifiers())) {
                seen.add(f.getName());
            }
            if (Modifier.isStatic(f.getModifiers())) {
                due(f.getName() + " is final", Modifier.isFinal(f.getModifiers()), true);
            } else {
                own++;
            }
        }
        due("fields that are seen", seen, new TreeSet<>(Set.of("BAD", "STATE", "FULL", "NONE")));
        due("twenty fields at most", own <= 20, true);
    }

    private static void source() throws IOException {
        String text = Files.readString(Path.of("src/main/java/StakeHouse.java"), StandardCharsets.UTF_8);
        String code = text.replaceAll("(?s)/\\*.*?\\*/", "").replaceAll("//[^\n]*", "");
        for (String outside : OUTSIDE) {
            Matcher m = Pattern.compile(outside).matcher(code);
            due("the source uses " + outside, m.find(), false);
        }
    }
}
