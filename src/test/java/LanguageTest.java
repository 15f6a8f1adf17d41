import java.io.IOException;
import java.lang.management.ManagementFactory;
import java.lang.reflect.Constructor;
import java.lang.reflect.Field;
import java.lang.reflect.Method;
import java.lang.reflect.Modifier;
import java.nio.file.Files;
import java.nio.file.Path;
import java.util.Arrays;
import java.util.List;
import java.util.Set;
import java.util.TreeSet;
import java.util.regex.Matcher;
import java.util.regex.Pattern;

/** The face of the class, what LANGUAGE.md rules out, and how much the calls of one run make. */
public final class LanguageTest {
    private static final Due DUE = new Due();
    private static final Set<String> FACE = new TreeSet<>(Set.of(
        "int feed(int,int,int,int,int)", "int end(int)", "int input(int)", "void clear()", "boolean start(int,int)",
        "int run(int)", "int state()", "long count(int)", "int out(int)", "int frame(int,int)",
        "long value(int,int,long,int)", "boolean same(int,int)", "int told(int)", "boolean steady()",
        "int stands(int,int,int,int)"));

    public static void main(String[] args) throws IOException {
        face();
        nested();
        source();
        lengths();
        room();
        DUE.finish();
    }

    private static void face() {
        Class<?> machine = SteadyMachine.class;
        DUE.due("the class is public and final", machine.getModifiers(), Modifier.PUBLIC | Modifier.FINAL);
        Set<String> methods = new TreeSet<>();
        for (Method m : machine.getDeclaredMethods()) {
            if (Modifier.isPublic(m.getModifiers())) {
                String types = Arrays.toString(Arrays.stream(m.getParameterTypes()).map(Class::getName).toArray());
                String list = types.substring(1, types.length() - 1).replace(" ", "");
                methods.add(m.getReturnType().getName() + " " + m.getName() + "(" + list + ")");
            } else {
                DUE.due(m.getName() + " is private", Modifier.isPrivate(m.getModifiers()), true);
                boolean named = FACE.stream().anyMatch(f -> f.contains(" " + m.getName() + "("));
                DUE.due(m.getName() + " has the name of a public one", named, false);
            }
        }
        DUE.due("the face is " + methods, methods.equals(FACE), true);
        for (Constructor<?> c : machine.getDeclaredConstructors()) {
            DUE.due("a constructor's parameters", c.getParameterCount(), 0);
            DUE.due("a constructor is public", Modifier.isPublic(c.getModifiers()), true);
        }
        for (Field f : machine.getDeclaredFields()) {
            boolean constant = f.getName().equals("NONE") || f.getName().equals("FULL");
            DUE.due(f.getName() + " is public", Modifier.isPublic(f.getModifiers()), constant);
            DUE.due(f.getName() + " is private", Modifier.isPrivate(f.getModifiers()), !constant);
        }
    }

    private static void nested() {
        Class<?>[] all = SteadyMachine.class.getDeclaredClasses();
        DUE.due("classes", all.length + 1 <= 12, true);
        for (Class<?> one : all) {
            DUE.due(one + " is static", Modifier.isStatic(one.getModifiers()), true);
            DUE.due(one + " is not public", Modifier.isPublic(one.getModifiers()), false);
            long fields = Arrays.stream(one.getDeclaredFields()).filter(f -> !Modifier.isStatic(f.getModifiers()))
                .count();
            DUE.due(one + " has some twenty fields", fields <= 20, true);
            for (Method m : one.getDeclaredMethods()) {
                boolean named = FACE.stream().anyMatch(f -> f.contains(" " + m.getName() + "("));
                DUE.due(m + " has the name of a public one", named, false);
                DUE.due(m + " takes at most seven", m.getParameterCount() <= 7, true);
            }
            for (Field f : one.getDeclaredFields()) {
                boolean fine = !Modifier.isStatic(f.getModifiers()) || Modifier.isFinal(f.getModifiers());
                DUE.due(f + " is final, if static", fine, true);
            }
        }
    }

    private static void source() throws IOException {
        String text = Files.readString(Path.of("src/main/java/SteadyMachine.java"));
        String code = text.replaceAll("(?s)/\\*.*?\\*/", "").replaceAll("//[^\n]*", "");
        String[] ruledOut = {"\\bthrow\\b", "\\btry\\b", "\\bcatch\\b", "\\bsynchronized\\b", "\\bassert\\b", "->",
            "::", "\\bpackage\\b", "\\binstanceof\\b", "\\bObject\\b", "\\bclone\\b", "Exact\\b", "\\bstatic \\{",
            "\\bdouble\\b", "\\bfloat\\b", "\\bThread\\b", "\\bRandom\\b", "nanoTime", "currentTimeMillis"};
        for (String one : ruledOut) {
            DUE.due("the source has " + one, Pattern.compile(one).matcher(code).find(), false);
        }
        Matcher imports = Pattern.compile("import ([^;]+);").matcher(code);
        while (imports.find()) {
            DUE.due("import of " + imports.group(1), imports.group(1).equals("java.util.Arrays"), true);
        }
    }

    /** A method ends at the first line that closes at the column where it began. */
    private static void lengths() throws IOException {
        List<String> lines = Files.readAllLines(Path.of("src/main/java/SteadyMachine.java"));
        Pattern begins = Pattern.compile("((?: {4}){1,2})(?!if|for|while|switch|else)\\w[\\w\\[\\] ]*\\([^;]*\\) \\{");
        int methods = 0;
        for (int i = 0; i < lines.size(); i++) {
            Matcher method = begins.matcher(lines.get(i));
            if (method.matches()) {
                methods++;
                int end = i + lines.subList(i, lines.size()).indexOf(method.group(1) + "}");
                DUE.due("line " + (i + 1) + ": a method of some sixty lines", end - i < 60, true);
            }
        }
        DUE.due("methods are found", methods > 100, true);
    }

    /** 7.3 million fields and elements of at most eight bytes; the dearest starts, each asking for more cells. */
    private static void room() {
        com.sun.management.ThreadMXBean threads =
            (com.sun.management.ThreadMXBean) ManagementFactory.getThreadMXBean();
        long id = Thread.currentThread().getId();
        int[] image = new Maker().kind(255, Maker.types()).method(0, 0, new Code().op(Op.RETURN)).image();
        Maker.load(new SteadyMachine(), image);
        long before = threads.getThreadAllocatedBytes(id);
        SteadyMachine x = new SteadyMachine();
        for (int i = 0; i < 100; i++) {
            Maker.load(x, image);
        }
        for (int i = 0; i < 312; i++) {
            x.start(200 * i, 64);
        }
        long made = threads.getThreadAllocatedBytes(id) - before;
        DUE.due("bytes made in one run: " + made, made < 7300000L * 8 / 2, true);
        before = threads.getThreadAllocatedBytes(id);
        for (int i = 0; i < 512; i++) {
            DUE.due("a new object's end", new SteadyMachine().end(0), -3);
        }
        made = threads.getThreadAllocatedBytes(id) - before;
        DUE.due("bytes made by new objects: " + made, made < 7300000L * 4, true);
    }
}
