import java.lang.reflect.Field;
import java.lang.reflect.Member;
import java.lang.reflect.Method;
import java.lang.reflect.Modifier;
import java.nio.file.Files;
import java.nio.file.Path;
import java.util.ArrayList;
import java.util.List;
import java.util.Set;
import java.util.TreeSet;
import java.util.regex.Matcher;
import java.util.regex.Pattern;

/** Those rules of LANGUAGE.md that can be seen from the file and its classes. */
public final class LanguageTest {
    private static final Check CHECK = new Check();
    private static final String[] FACE = {
        "int lay(int,int,int,int)", "boolean bark(int,int,boolean)", "boolean measure(int,int,int,int)",
        "boolean span(int,int,int)", "int weather(int,int,int,int)", "boolean plan(int,int)",
        "boolean ends(int,boolean,int)", "int feed(int,int,int,int,int)", "int end(int)", "int text()", "int fault(int)",
        "boolean by(int)", "int laid(int)", "int of(int,int,int)", "int stack(int)", "int week(int)", "int take(int)",
        "int order(int,int)", "int way(int,int,int)", "int spans(int,int,int,int)", "int sure(int,int)",
        "int small(int,int,int)", "int winter(int)", "int remember()", "int missing(int,int)", "int falls(int,int,int)",
        "int image()", "int back()", "int about(int)"};

    public static void main(String[] args) throws Exception {
        String source = Files.readString(Path.of(args.length > 0 ? args[0] : "src/main/java/WoodStack.java"));
        face();
        for (Class<?> inside : classes()) {
            members(inside);
        }
        words(bare(source));
        methodLengths(source);
        callDepths();
        CHECK.finish();
    }

    private static void so(String rule, boolean holds) {
        CHECK.due(rule, holds, true);
    }

    private static List<Class<?>> classes() {
        List<Class<?>> all = new ArrayList<>(List.of(WoodStack.class.getDeclaredClasses()));
        all.add(WoodStack.class);
        so("11: at most twelve classes", all.size() <= 12);
        return all;
    }

    private static boolean isPrivate(Member member) {
        return Modifier.isPrivate(member.getModifiers());
    }

    private static void face() {
        Set<String> seen = new TreeSet<>();
        for (Method method : WoodStack.class.getDeclaredMethods()) {
            if (!isPrivate(method) && !method.isSynthetic()) {
                so("1: public " + method, Modifier.isPublic(method.getModifiers()));
                String text = method.toString().replace("WoodStack.", "").replace("public ", "");
                seen.add(text);
            }
        }
        so("1: the face is the document's: " + seen, seen.equals(new TreeSet<>(List.of(FACE))));
        so("1: public and final", Modifier.toString(WoodStack.class.getModifiers()).equals("public final"));
        so("1: one constructor", WoodStack.class.getDeclaredConstructors().length == 1 && WoodStack.class.getConstructors().length == 1);
        for (Field field : WoodStack.class.getDeclaredFields()) {
            so("1: private " + field, isPrivate(field) || field.getName().equals("NONE"));
        }
    }

    private static void members(Class<?> inside) {
        int fields = 0;
        for (Field field : inside.getDeclaredFields()) {
            boolean isStatic = Modifier.isStatic(field.getModifiers());
            fields += isStatic ? 0 : 1;
            so("5: static and not final: " + field, !isStatic || Modifier.isFinal(field.getModifiers()));
        }
        so("11: at most twenty fields: " + inside, fields <= 20);
        so("2: static: " + inside, inside == WoodStack.class || Modifier.isStatic(inside.getModifiers()));
        for (Method method : inside.getDeclaredMethods()) {
            so("11: at most seven parameters: " + method, method.getParameterCount() <= 7);
            for (String face : FACE) {
                boolean sameName = face.contains(" " + method.getName() + "(");
                so("1: not the name of a public one: " + method, !sameName || !isPrivate(method) && inside == WoodStack.class);
            }
        }
    }

    /** The source without what stands in comments and between quotes. */
    private static String bare(String source) {
        String text = source.replaceAll("(?s)/\\*.*?\\*/", " ").replaceAll("//[^\\n]*", " ");
        return text.replaceAll("\"[^\"\\n]*\"", "\"\"").replaceAll("'[^'\\n]+'", "0");
    }

    private static void words(String code) {
        String[] refused = {"throw", "throws", "try", "catch", "finally", "synchronized", "assert", "import", "package",
            "native", "volatile", "transient", "yield", "record", "double", "float", "Object", "Exception", "Integer",
            "toString", "hashCode", "equals"};
        for (String word : refused) {
            so("no " + word, !Pattern.compile("\\b" + word + "\\b").matcher(code).find());
        }
        so("2: no lambda", !code.contains("->"));
        so("2: no method reference", !code.contains("::"));
        so("5: no static block", !Pattern.compile("static\\s*\\{").matcher(code).find());
        so("9: no loop without an end", !Pattern.compile("while\\s*\\(\\s*true|for\\s*\\([^;]*;\\s*;").matcher(code).find());
        Matcher library = Pattern.compile("\\b(Math|System|Arrays|Long|String)\\.(\\w+)").matcher(code);
        while (library.find()) {
            so("4: " + library.group(), List.of("Math.max", "Math.min", "Math.abs", "System.arraycopy").contains(library.group()));
        }
    }

    private static void callDepths() throws Exception {
        CallDepth depth = new CallDepth();
        if (!depth.look(classes())) {
            System.out.println("this JDK has no javap: how deep calls go is not looked at");
            return;
        }
        so("11: all public methods and the constructor are seen: " + depth.shown(), depth.shown().size() == FACE.length + 1);
        for (String method : depth.shown()) {
            List<String> longest = depth.longest(method);
            so("Promise " + promiseOf(method) + " keeps to rule 11, calls go at most eight deep: " + longest, longest.size() <= 8);
        }
    }

    /** The face stands in the order of the promises, behind the constructor's, the first. */
    private static int promiseOf(String method) {
        for (int i = 0; i < FACE.length; i++) {
            if (FACE[i].contains(" " + method.substring(method.indexOf('.') + 1) + "(")) {
                return i + 2;
            }
        }
        return 1;
    }

    private static void methodLengths(String source) {
        String[] lines = source.split("\n");
        for (int i = 0; i < lines.length; i++) {
            if (lines[i].matches(" {4,8}[a-zA-Z].*\\) \\{") && !lines[i].contains(" class ")) {
                String end = lines[i].replaceAll("\\S.*", "") + "}";
                int length = 1;
                while (i + length < lines.length && !lines[i + length].equals(end)) {
                    length++;
                }
                so("11: at most sixty lines: " + lines[i], length < 60);
            }
        }
    }
}
