import java.io.IOException;
import java.lang.reflect.Method;
import java.lang.reflect.Modifier;
import java.nio.file.Files;
import java.nio.file.Path;
import java.util.Set;
import java.util.TreeSet;
import java.util.regex.Matcher;
import java.util.regex.Pattern;

/** README.md tells how to use the class: its example answers what it says, its table holds each call of the face. */
public final class ReadmeTest {
    public static void main(String[] args) throws Exception {
        String readme = Files.readString(Path.of("README.md"));
        exampleAnswersAsItSays(readme);
        tableIsTheFace(readme);
        classesInsideAreTold(readme);
        testsAreTold(readme);
        Due.end();
    }

    private static void exampleAnswersAsItSays(String readme) throws ReflectiveOperationException {
        int start = readme.indexOf("```java");
        int end = readme.indexOf("```", start + 3);
        Due.is("an example stands in README.md", start >= 0 && end > start ? 1 : 0, 1);
        String example = readme.substring(start, end);
        PushSaidDoor house = new PushSaidDoor();
        Matcher text = Pattern.compile("String text = \"([^\"]*)\";").matcher(example);
        Due.is("a text stands in the example", text.find() ? 1 : 0, 1);
        Due.tell(house, text.group(1));
        Matcher line = Pattern.compile("int \\w+ = house\\.(\\w+)\\(([^)]*)\\); *// (-?\\d+): ").matcher(example);
        int answers = 0;
        while (line.find()) {
            answers++;
            Due.is(line.group(1) + "(" + line.group(2) + ")", call(house, line.group(1), line.group(2)),
                    Integer.parseInt(line.group(3)));
        }
        int told = example.split("int \\w+ = house\\.", -1).length - 1;
        Due.is("calls of the example with their answer", answers, told);
        Due.is("the example has ten calls at least", answers >= 10 ? 1 : 0, 1);
    }

    private static int call(PushSaidDoor house, String name, String numbers) throws ReflectiveOperationException {
        String[] parts = numbers.isEmpty() ? new String[0] : numbers.split(", *");
        Class<?>[] kinds = new Class<?>[parts.length];
        Object[] values = new Object[parts.length];
        for (int k = 0; k < parts.length; k++) {
            kinds[k] = int.class;
            values[k] = Integer.valueOf(parts[k]);
        }
        return (Integer) PushSaidDoor.class.getMethod(name, kinds).invoke(house, values);
    }

    private static void tableIsTheFace(String readme) {
        Set<String> face = new TreeSet<>();
        for (Method m : PushSaidDoor.class.getDeclaredMethods()) {
            if (Modifier.isPublic(m.getModifiers())) {
                face.add(m.getName() + " " + m.getParameterCount());
            }
        }
        Set<String> told = new TreeSet<>();
        Matcher row = Pattern.compile("(?m)^\\| `(\\w+)\\(([^)]*)\\)` \\|").matcher(readme);
        while (row.find()) {
            int many = row.group(2).isEmpty() ? 0 : row.group(2).split(",").length;
            Due.is(row.group(1) + " is told once", told.add(row.group(1) + " " + many) ? 1 : 0, 1);
        }
        Due.is("the calls told in README.md, " + told + ", are those of the face, " + face, told.equals(face) ? 1 : 0, 1);
    }

    private static void classesInsideAreTold(String readme) {
        for (Class<?> c : PushSaidDoor.class.getDeclaredClasses()) {
            Due.is(c.getSimpleName() + " is told", readme.contains("`" + c.getSimpleName() + "`") ? 1 : 0, 1);
        }
    }

    private static void testsAreTold(String readme) throws IOException {
        Due.is(".ci/run is told", readme.contains("    .ci/run\n") ? 1 : 0, 1);
        try (var files = Files.list(Path.of("src/test/java"))) {
            for (Path file : (Iterable<Path>) files.sorted()::iterator) {
                String name = file.getFileName().toString().replace(".java", "");
                boolean isTold = readme.contains("`" + name + "`");
                Due.is(name + " is told", isTold || !name.endsWith("Test") ? 1 : 0, 1);
            }
        }
    }
}
