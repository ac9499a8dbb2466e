import java.io.IOException;
import java.lang.reflect.Method;
import java.lang.reflect.Modifier;
import java.nio.charset.StandardCharsets;
import java.nio.file.DirectoryStream;
import java.nio.file.Files;
import java.nio.file.Path;
import java.util.Set;
import java.util.TreeSet;
import java.util.regex.Matcher;
import java.util.regex.Pattern;

/** README.md: its example answers as it says, and it names each call and each test. */
public final class ReadmeTest {
    private static final Pattern EXAMPLE = Pattern.compile("(?s)```java\n(.*?)```");
    private static final Pattern ROW = Pattern.compile("house\\.(\\w+)\\(([-0-9, ]*)\\); +// (-?\\d+): \\S.*");
    private static final Pattern TABLE_ROW = Pattern.compile("(?m)^\\| `(?:int |long )?(\\w+)\\(([^)]*)\\)` \\| \\S.* \\| \\S.* \\|$");
    private static int wrong = 0;

    private static void due(String what, Object got, Object want) {
        if (!got.equals(want)) {
            wrong++;
            System.out.println(what + " is " + got + ", due is " + want);
        }
    }

    public static void main(String[] args) throws ReflectiveOperationException, IOException {
        String text = Files.readString(Path.of("README.md"), StandardCharsets.UTF_8);
        Set<String> face = faceNames();
        due("calls of the example", playExample(text), face);
        face.add("StakeHouse");
        due("rows of calls", tableNames(text), face);
        testsAreNamed(text);
        System.out.println(wrong == 0 ? "all answers are as due" : wrong + " answers are not as due");
        if (wrong != 0) {
            System.exit(1);
        }
    }

    private static Set<String> faceNames() {
        Set<String> names = new TreeSet<>();
        for (Method m : StakeHouse.class.getDeclaredMethods()) {
            if (Modifier.isPublic(m.getModifiers())) {
                names.add(m.getName());
            }
        }
        return names;
    }

    /** Each row of the example but the first is a call with the answer that it is to have. */
    private static Set<String> playExample(String text) throws ReflectiveOperationException {
        Set<String> called = new TreeSet<>();
        Matcher example = EXAMPLE.matcher(text);
        due("there is an example", example.find(), true);
        String[] rows = example.group(1).split("\n");
        due("first row of the example", rows[0], "StakeHouse house = new StakeHouse();");
        StakeHouse house = new StakeHouse();
        for (int i = 1; i < rows.length; i++) {
            Matcher row = ROW.matcher(rows[i]);
            due("a call with its answer: " + rows[i], row.matches(), true);
            if (row.matches()) {
                due(row.group(1) + "(" + row.group(2) + ")", answer(house, row.group(1), row.group(2)),
                    Long.parseLong(row.group(3)));
                called.add(row.group(1));
            }
        }
        return called;
    }

    private static long answer(StakeHouse house, String name, String numbers) throws ReflectiveOperationException {
        String[] told = numbers.isEmpty() ? new String[0] : numbers.split(", ");
        Class<?>[] types = new Class<?>[told.length];
        Object[] values = new Object[told.length];
        for (int i = 0; i < told.length; i++) {
            types[i] = int.class;
            values[i] = Integer.parseInt(told[i]);
        }
        Number got = (Number) StakeHouse.class.getMethod(name, types).invoke(house, values);
        return got.longValue();
    }

    private static Set<String> tableNames(String text) {
        Set<String> names = new TreeSet<>();
        Matcher row = TABLE_ROW.matcher(text);
        while (row.find()) {
            names.add(row.group(1));
            int told = row.group(2).isEmpty() ? 0 : row.group(2).split(", ").length;
            due("numbers that the row tells for " + row.group(1), told, taken(row.group(1)));
        }
        return names;
    }

    private static int taken(String name) {
        for (Method m : StakeHouse.class.getDeclaredMethods()) {
            if (m.getName().equals(name)) {
                return m.getParameterCount();
            }
        }
        return 0;
    }

    private static void testsAreNamed(String text) throws IOException {
        try (DirectoryStream<Path> files = Files.newDirectoryStream(Path.of("src/test/java"), "*Test.java")) {
            for (Path file : files) {
                String name = file.getFileName().toString().replace(".java", "");
                due("README.md names " + name, text.contains("\n- `" + name + "`: "), true);
            }
        }
    }
}
