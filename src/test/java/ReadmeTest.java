import java.io.IOException;
import java.lang.reflect.Method;
import java.lang.reflect.Modifier;
import java.nio.file.Files;
import java.nio.file.Path;
import java.util.ArrayList;
import java.util.List;
import java.util.regex.Matcher;
import java.util.regex.Pattern;

/** Makes the calls that README.md shows and holds each answer that stands behind one. */
public final class ReadmeTest {
    private static final Pattern NEW = Pattern.compile("WoodStack x = new WoodStack\\((\\d+)\\);.*");
    private static final Pattern READ = Pattern.compile("read\\(x, \"([^\"]*)\"\\);\\s*// (-?\\d+).*");
    private static final Pattern CALL = Pattern.compile("x\\.(\\w+)\\(([^)]*)\\);\\s*// (-?\\d+|true|false)\\b.*");

    private final Check check = new Check();
    private final List<String> readme = Files.readAllLines(Path.of("README.md"));
    private final StringBuilder others = new StringBuilder();
    private WoodStack x = new WoodStack(2);
    private int calls = 0;

    private ReadmeTest() throws IOException {
    }

    public static void main(String[] args) throws IOException, ReflectiveOperationException {
        new ReadmeTest().all();
    }

    private void all() throws IOException, ReflectiveOperationException {
        boolean java = false;
        for (String line : readme) {
            if (line.startsWith("```")) {
                java = line.equals("```java");
            } else if (java && !line.isBlank()) {
                follow(line);
            }
        }
        check.due("README.md shows calls", calls > 40, true);
        helpers();
        face();
        check.finish();
    }

    private void follow(String line) throws ReflectiveOperationException {
        Matcher made = NEW.matcher(line);
        Matcher read = READ.matcher(line);
        Matcher call = CALL.matcher(line);
        if (made.matches()) {
            x = new WoodStack(Integer.parseInt(made.group(1)));
        } else if (read.matches()) {
            check.due("README.md: " + line, Check.read(x, read.group(1)), Integer.parseInt(read.group(2)));
        } else if (call.matches()) {
            calls++;
            Object got = answer(call.group(1), call.group(2));
            check.due("README.md: " + line + " (" + got + ")", got.toString().equals(call.group(3)), true);
        } else {
            check.due("README.md: no answer behind " + line, line.startsWith("x.") || line.startsWith("read("), false);
            others.append(line);
        }
    }

    private Object answer(String name, String told) throws ReflectiveOperationException {
        List<Object> values = new ArrayList<>();
        List<Class<?>> types = new ArrayList<>();
        for (String one : told.isBlank() ? new String[0] : told.split(",")) {
            String word = one.strip();
            boolean flag = word.equals("true") || word.equals("false");
            types.add(flag ? boolean.class : int.class);
            values.add(flag ? (Object) Boolean.valueOf(word) : (Object) (word.equals("NONE") ? WoodStack.NONE : Integer.parseInt(word)));
        }
        return WoodStack.class.getMethod(name, types.toArray(new Class<?>[0])).invoke(x, values.toArray());
    }

    /** The functions that README.md shows are those that all tests use. */
    private void helpers() throws IOException {
        String own = Files.readString(Path.of("src/test/java/Check.java")).replaceAll("\\s", "");
        String shown = others.toString().replaceAll("\\s", "");
        check.due("README.md shows functions", shown.contains("intread(") && shown.contains("voidtape(") && shown.contains("intfour("), true);
        for (String function : shown.split("(?=static(int|void))")) {
            check.due("README.md: Check.java has " + function, own.contains(function), true);
        }
    }

    private void face() {
        String all = String.join("\n", readme);
        int named = 0;
        for (Method method : WoodStack.class.getDeclaredMethods()) {
            if (Modifier.isPublic(method.getModifiers())) {
                named++;
                check.due("README.md names " + method.getName(), all.contains("`" + method.getName() + "` "), true);
            }
        }
        check.due("the face has 29 calls", named, 29);
    }
}
