import java.io.IOException;
import java.lang.reflect.Constructor;
import java.lang.reflect.Field;
import java.lang.reflect.Method;
import java.lang.reflect.Modifier;
import java.nio.file.Files;
import java.nio.file.Path;
import java.util.List;
import java.util.Map;
import java.util.Set;
import java.util.TreeMap;
import java.util.TreeSet;
import java.util.regex.Matcher;
import java.util.regex.Pattern;

/** The face of the class, and the rules of LANGUAGE.md that can be seen from outside or from its words. */
public final class FaceTest {
    private static final Set<String> FACE = Set.of("write 1", "wipe 0", "fault 0", "lay 0", "door 2", "person 2",
            "times 3", "does 1", "weighs 4", "wrong 4", "go 2", "put 3", "hang 1", "undo 0", "tell 1", "noRow 0",
            "along 1", "way 3", "learnt 4", "spoilt 5", "tray 2", "signs 4", "hung 1", "clash 1", "worth 1",
            "crowd 3", "film 4", "forget 0", "fits 2", "day 5", "keep 0", "back 0", "count 1");

    public static void main(String[] args) throws IOException {
        methods();
        fields();
        constructors();
        classesInside();
        words();
        callsGoEightDeepAtMost();
        noCallMakesAnObject();
        Due.end();
    }

    private static void methods() {
        Set<String> names = new TreeSet<>();
        for (String one : FACE) {
            names.add(one.substring(0, one.indexOf(' ')));
        }
        Set<String> found = new TreeSet<>();
        for (Method m : PushSaidDoor.class.getDeclaredMethods()) {
            if (Modifier.isPublic(m.getModifiers())) {
                found.add(m.getName() + " " + m.getParameterCount());
                Due.is(m + " answers int", m.getReturnType() == int.class ? 1 : 0, 1);
                Due.is(m + " is static", m.getModifiers() & Modifier.STATIC, 0);
            } else {
                Due.is(m + " is private", m.getModifiers() & Modifier.PRIVATE, Modifier.PRIVATE);
                Due.is(m + " bears a public name", names.contains(m.getName()) ? 1 : 0, 0);
            }
        }
        Due.is("the public methods " + found, found.equals(new TreeSet<>(FACE)) ? 1 : 0, 1);
    }

    private static void fields() {
        Set<String> found = new TreeSet<>();
        for (Field f : PushSaidDoor.class.getDeclaredFields()) {
            int how = f.getModifiers();
            if (Modifier.isPublic(how)) {
                found.add(f.getName());
            } else {
                Due.is(f + " is private", how & Modifier.PRIVATE, Modifier.PRIVATE);
            }
            Due.is(f + " is static and not final", how & (Modifier.STATIC | Modifier.FINAL),
                    Modifier.isStatic(how) ? Modifier.STATIC | Modifier.FINAL : how & Modifier.FINAL);
        }
        Due.is("the constants " + found, found.equals(Set.of("BAD", "NO", "FULL", "NONE")) ? 1 : 0, 1);
        Due.is("the class", PushSaidDoor.class.getModifiers(), Modifier.PUBLIC | Modifier.FINAL);
    }

    private static void constructors() {
        Constructor<?>[] all = PushSaidDoor.class.getDeclaredConstructors();
        Due.is("one constructor", all.length, 1);
        Due.is("without numbers", all[0].getParameterCount(), 0);
        Due.is("public", all[0].getModifiers(), Modifier.PUBLIC);
    }

    private static void classesInside() {
        Class<?>[] inside = PushSaidDoor.class.getDeclaredClasses();
        Due.is("at most twelve classes in the file", inside.length + 1 <= 12 ? 1 : 0, 1);
        for (Class<?> c : inside) {
            Due.is(c + " is static", c.getModifiers() & Modifier.STATIC, Modifier.STATIC);
            Due.is(c + " is for none outside", c.getModifiers() & (Modifier.PUBLIC | Modifier.PROTECTED), 0);
            int own = 0;
            for (Field f : c.getDeclaredFields()) {
                own += Modifier.isStatic(f.getModifiers()) ? 0 : 1;
            }
            Due.is(c + " has some twenty fields at most", own <= 20 ? 1 : 0, 1);
            for (Method m : c.getDeclaredMethods()) {
                Due.is(m + " has seven parameters at most", m.getParameterCount() <= 7 ? 1 : 0, 1);
            }
        }
    }

    private static void words() throws IOException {
        String source = Files.readString(Path.of("src/main/java/PushSaidDoor.java"));
        String[] forbidden = {"import ", "package ", "throw", "try ", "catch", "finally", "synchronized", "assert",
            "->", "::", "Exact(", "double", "float", "Thread", "Random", "System.out", "System.nano",
            "System.current", "instanceof", "native", "Object", "equals(", "hashCode", "toString"};
        for (String word : forbidden) {
            Due.is("'" + word + "' stands in the class", source.contains(word) ? 1 : 0, 0);
        }
        for (int k = 0; k < source.length(); k++) {
            if (source.charAt(k) > 126) {
                Due.is("a letter of ASCII at " + k, source.charAt(k), '?');
            }
        }
    }

    /** Rule 11, by names (methods of one name are taken as one): the method of the face is the first one of the eight, and none comes back to itself. */
    private static void callsGoEightDeepAtMost() throws IOException {
        Map<String, Set<String>> calls = callsByMethod();
        Map<String, Integer> depths = new TreeMap<>();
        for (String name : calls.keySet()) {
            int deep = depthOf(name, calls, depths, 0);
            Due.is(name + " goes " + deep + " deep, eight at most", deep <= 8 ? 1 : 0, 1);
        }
        Due.is("all methods of the face were looked at", calls.size() > FACE.size() ? 1 : 0, 1);
    }

    private static int depthOf(String name, Map<String, Set<String>> calls, Map<String, Integer> depths, int above) {
        if (depths.containsKey(name)) {
            return depths.get(name);
        }
        if (above > 50) {
            return 99;
        }
        int deepest = 0;
        for (String called : calls.get(name)) {
            deepest = Math.max(deepest, depthOf(called, calls, depths, above + 1));
        }
        depths.put(name, deepest + 1);
        return deepest + 1;
    }

    private static Map<String, Set<String>> callsByMethod() throws IOException {
        List<String> lines = Files.readAllLines(Path.of("src/main/java/PushSaidDoor.java"));
        Pattern start = Pattern.compile("( +)(?:(?:public|private|static) )*(?:int|void|boolean|char) (\\w+)\\(.*");
        Pattern call = Pattern.compile("(\\w+)\\(");
        Map<String, Set<String>> words = new TreeMap<>();
        for (int k = 0; k < lines.size(); k++) {
            Matcher m = start.matcher(lines.get(k));
            if (!m.matches()) {
                continue;
            }
            Set<String> called = words.computeIfAbsent(m.group(2), name -> new TreeSet<>());
            int first = k;
            for (k++; !lines.get(k).equals(m.group(1) + "}"); k++) {
                Matcher c = call.matcher(lines.get(k));
                while (c.find()) {
                    called.add(c.group(1));
                }
            }
            Due.is(m.group(2) + " has some sixty lines at most", k - first <= 60 ? 1 : 0, 1);
        }
        for (Set<String> called : words.values()) {
            called.retainAll(words.keySet());
        }
        return words;
    }

    /** All calls of a run live in one room: rows stand in fields from the start, and no call joins texts or makes a list. */
    private static void noCallMakesAnObject() throws IOException {
        Pattern ofField = Pattern.compile(" +(?:private )?final [\\w\\[\\]]+ \\w+ = new \\w+[\\[(].*;");
        int made = 0;
        for (String line : Files.readAllLines(Path.of("src/main/java/PushSaidDoor.java"))) {
            if (line.contains("new ")) {
                made++;
                Due.is("'" + line.trim() + "' is a field's start", ofField.matcher(line).matches() ? 1 : 0, 1);
            }
            for (String word : new String[] {".clone()", "copyOf", "substring", "toCharArray", "StringBuilder", "List"}) {
                Due.is("'" + word + "' stands in '" + line.trim() + "'", line.contains(word) ? 1 : 0, 0);
            }
        }
        Due.is("fields that start with an object", made > 20 ? 1 : 0, 1);
    }
}
