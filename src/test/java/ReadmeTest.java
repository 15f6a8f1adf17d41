import java.io.File;
import java.io.IOException;
import java.lang.reflect.Method;
import java.lang.reflect.Modifier;
import java.nio.file.Files;
import java.nio.file.Path;
import java.util.ArrayList;
import java.util.Arrays;
import java.util.HashSet;
import java.util.List;
import java.util.Set;
import java.util.regex.Matcher;
import java.util.regex.Pattern;

/** README.md: every answer that it tells is the one that the class gives, and every test that it names is there. */
public final class ReadmeTest {
    private static final Due DUE = new Due();
    private static final Path README = Path.of("README.md");
    private static final Path FACE = Path.of("../shared/DOC.md");
    private static final Path TESTS = Path.of("src/test/java");
    private static final Pattern CALL = Pattern.compile("x\\.(\\w+)\\(([^)]*)\\);(?:\\s*// (-?\\w+).*)?");
    private static final Pattern NAMED = Pattern.compile("`(\\w+)(?:\\.(\\w+))?`");

    public static void main(String[] args) throws IOException, ReflectiveOperationException {
        List<String> lines = Files.readAllLines(README);
        image(lines);
        calls(lines);
        face(String.join("\n", lines));
        testsNamed(lines);
        methodsNamed(lines);
        DUE.finish();
    }

    /** The bytes that are listed are the ones that are fed. */
    private static void image(List<String> lines) {
        List<Integer> bytes = new ArrayList<>();
        for (int i = lines.indexOf("```text") + 1; !lines.get(i).equals("```"); i++) {
            for (String digits : lines.get(i).split(" {2,}")[0].split(" ")) {
                bytes.add(Integer.parseInt(digits, 16));
            }
        }
        int[] image = bytes.stream().mapToInt(Integer::intValue).toArray();
        DUE.due("bytes listed", image.length, 57);
        for (int from = 0; from < image.length; from += 20) {
            int[] five = Maker.numbers(image, from);
            String feed = String.format("x.feed(0x%08X, 0x%08X, 0x%08X, 0x%08X, 0x%08X);", five[0], five[1], five[2],
                five[3], five[4]);
            DUE.due(feed + " is told", lines.stream().anyMatch(line -> line.startsWith(feed)), true);
        }
    }

    private static void calls(List<String> lines) throws ReflectiveOperationException {
        Set<String> called = new HashSet<>();
        SteadyMachine x = null;
        for (int i = 0; i < lines.size(); i++) {
            Matcher call = CALL.matcher(lines.get(i));
            if (lines.get(i).equals("SteadyMachine x = new SteadyMachine();")) {
                x = new SteadyMachine();
            } else if (call.matches()) {
                called.add(call.group(1));
                answer(x, i + 1, call);
            } else {
                DUE.due("line " + (i + 1) + " is a call that can be made", lines.get(i).startsWith("x."), false);
            }
        }
        for (Method m : SteadyMachine.class.getDeclaredMethods()) {
            if (Modifier.isPublic(m.getModifiers())) {
                DUE.due(m.getName() + " is called", called.contains(m.getName()), true);
            }
        }
    }

    private static void answer(SteadyMachine x, int line, Matcher call) throws ReflectiveOperationException {
        Method method = Arrays.stream(SteadyMachine.class.getMethods())
            .filter(m -> m.getName().equals(call.group(1))).findFirst().orElseThrow();
        String[] told = call.group(2).isEmpty() ? new String[0] : call.group(2).split(", ");
        Object[] values = new Object[told.length];
        for (int i = 0; i < told.length; i++) {
            long v = number(told[i]);
            values[i] = method.getParameterTypes()[i] == long.class ? (Object) v : (Object) (int) v;
        }
        Object got = method.invoke(x, values);
        boolean answers = method.getReturnType() != void.class;
        DUE.due("line " + line + " tells an answer", call.group(3) != null, answers);
        if (answers && call.group(3) != null) {
            DUE.due("line " + line + ": " + call.group(), asNumber(got), number(call.group(3)));
        }
    }

    private static long number(String text) {
        switch (text) {
            case "NONE":
                return SteadyMachine.NONE;
            case "FULL":
                return SteadyMachine.FULL;
            case "true":
                return 1;
            case "false":
                return 0;
            default:
                return Long.decode(text.replace("_", ""));
        }
    }

    private static long asNumber(Object got) {
        return got instanceof Boolean is ? (is ? 1 : 0) : ((Number) got).longValue();
    }

    /** Each line of the document's face stands in README.md as it is written there. */
    private static void face(String readme) throws IOException {
        int many = 0;
        for (String line : Files.readAllLines(FACE)) {
            Matcher member = Pattern.compile("    public (?!static)(.*);").matcher(line);
            if (member.matches()) {
                many++;
                DUE.due(member.group(1) + " is told", readme.contains("- `" + member.group(1) + "`: "), true);
            }
        }
        DUE.due("constructors and methods of the face", many, 16);
        DUE.due("NONE is told", readme.contains("`SteadyMachine.NONE` is " + SteadyMachine.NONE + ":"), true);
        DUE.due("FULL is told", readme.contains("`SteadyMachine.FULL` is " + SteadyMachine.FULL + ":"), true);
    }

    private static void testsNamed(List<String> lines) {
        Set<String> named = new HashSet<>();
        for (String line : lines) {
            Matcher name = NAMED.matcher(line);
            while (name.find()) {
                if (name.group(1).endsWith("Test")) {
                    named.add(name.group(1));
                    DUE.due(name.group(1) + " is there", Files.exists(fileOf(name.group(1))), true);
                }
            }
        }
        for (File file : TESTS.toFile().listFiles((folder, name) -> name.endsWith("Test.java"))) {
            String name = file.getName().substring(0, file.getName().length() - ".java".length());
            DUE.due(name + " is named", named.contains(name), true);
        }
    }

    /** A row of the boundary cases names tests in its second column, and methods of them in its third. */
    private static void methodsNamed(List<String> lines) throws IOException {
        int rows = 0;
        for (String line : lines.subList(lines.indexOf("### Boundary cases"), lines.size())) {
            String[] columns = line.split("\\|");
            if (columns.length == 4 && columns[2].contains("Test`")) {
                rows++;
                rowNames(columns[2], columns[3]);
            }
        }
        DUE.due("rows of boundary cases", rows > 15, true);
    }

    private static void rowNames(String tests, String methods) throws IOException {
        StringBuilder text = new StringBuilder();
        Matcher test = NAMED.matcher(tests);
        while (test.find()) {
            text.append(Files.readString(fileOf(test.group(1))));
        }
        Matcher name = NAMED.matcher(methods);
        while (name.find()) {
            boolean elsewhere = name.group(2) != null;
            String within = elsewhere ? Files.readString(fileOf(name.group(1))) : text.toString();
            String method = elsewhere ? name.group(2) : name.group(1);
            DUE.due(name.group() + " is a method of" + tests, within.contains(" void " + method + "()"), true);
        }
    }

    private static Path fileOf(String test) {
        return TESTS.resolve(test + ".java");
    }
}
