import java.io.IOException;
import java.lang.reflect.Constructor;
import java.lang.reflect.Field;
import java.lang.reflect.Method;
import java.lang.reflect.Modifier;
import java.nio.file.Files;
import java.nio.file.Path;
import java.util.Set;
import java.util.TreeSet;
import java.util.regex.Matcher;
import java.util.regex.Pattern;

/** The public face of the document, and what LANGUAGE.md rules out and a text can show. Runs in the project's root. */
public final class BeadBenchFace {
    private static final Set<String> FACE = Set.of(
        "int lay(int,int,int)", "boolean ticket(int,int,int)", "int share(int,int)", "int put(int,int,int)",
        "int move(int,int,int,int,int)", "int open(int,int,int)", "int close(int,int,int)", "int turn(int,int)",
        "int spread(int,int)", "int undo()", "int match(int,int,int,int,int)", "int polish(int,int,int)",
        "int tray(int,int)", "int what(int,int)", "long at(int,int)", "int polished(int,int)", "int told(int)");

    private static final Set<String> CONSTANTS = Set.of("MISSING", "NO_ROW", "UNLIKE", "PLACES", "STOPPED", "BAD");

    private static final Pattern RULED_OUT = Pattern.compile(
        "\\b(throw|throws|try|catch|synchronized|assert|import|package|protected|native|volatile|Thread|Random"
            + "|equals|hashCode|toString)\\b|->|::|\\w+Exact\\b|static \\{");

    private static int wrong = 0;

    private static void due(String what, Object got, Object want) {
        if (!got.equals(want)) {
            wrong++;
            System.out.println(what + " is " + got + ", due is " + want);
        }
    }

    private static String signature(Method m) {
        StringBuilder text = new StringBuilder(m.getReturnType().getName()).append(' ').append(m.getName()).append('(');
        for (int i = 0; i < m.getParameterCount(); i++) {
            text.append(i == 0 ? "" : ",").append(m.getParameterTypes()[i].getName());
        }
        return text.append(')').toString();
    }

    private static void members() {
        Set<String> methods = new TreeSet<>();
        Set<String> publicNames = new TreeSet<>();
        for (Method m : BeadBench.class.getDeclaredMethods()) {
            if (!Modifier.isPrivate(m.getModifiers())) {
                methods.add(signature(m));
                publicNames.add(m.getName());
                due(m.getName() + " public", Modifier.isPublic(m.getModifiers()), true);
                due(m.getName() + " static", Modifier.isStatic(m.getModifiers()), false);
            }
        }
        due("the methods", methods, new TreeSet<>(FACE));
        Set<String> constants = new TreeSet<>();
        for (Field f : BeadBench.class.getDeclaredFields()) {
            if (!Modifier.isPrivate(f.getModifiers())) {
                constants.add(f.getName());
                due(f.getName() + " modifiers", Modifier.toString(f.getModifiers()), "public static final");
            }
            if (Modifier.isStatic(f.getModifiers())) {
                due(f.getName() + " final", Modifier.isFinal(f.getModifiers()), true);
            }
        }
        due("the constants", constants, new TreeSet<>(CONSTANTS));
        Constructor<?>[] made = BeadBench.class.getDeclaredConstructors();
        due("constructors", made.length, 1);
        due("its parameters", made[0].getParameterCount(), 0);
        due("the class", Modifier.toString(BeadBench.class.getModifiers()), "public final");
        innerClasses(publicNames);
    }

    private static void innerClasses(Set<String> publicNames) {
        Class<?>[] inside = BeadBench.class.getDeclaredClasses();
        due("at most twelve classes", inside.length <= 12, true);
        for (Class<?> c : inside) {
            due(c.getName() + " static", Modifier.isStatic(c.getModifiers()), true);
            due(c.getName() + " public", Modifier.isPublic(c.getModifiers()), false);
            for (Method m : c.getDeclaredMethods()) {
                due(m.getName() + " inside bears a public one's name", publicNames.contains(m.getName()), false);
            }
        }
        Set<String> names = new TreeSet<>();
        for (Method m : BeadBench.class.getDeclaredMethods()) {
            due(m.getName() + " twice", !names.add(m.getName()), false);
        }
    }

    private static void words() throws IOException {
        String text = Files.readString(Path.of("src/main/java/BeadBench.java"));
        String code = text.replaceAll("(?s)/\\*.*?\\*/", "").replaceAll("//[^\n]*", "");
        Matcher m = RULED_OUT.matcher(code);
        while (m.find()) {
            wrong++;
            System.out.println("BeadBench.java has '" + m.group() + "', which LANGUAGE.md rules out");
        }
    }

    public static void main(String[] args) throws IOException {
        members();
        words();
        System.out.println(wrong == 0 ? "the face is as due" : wrong + " parts of the face are not as due");
        if (wrong != 0) {
            System.exit(1);
        }
    }
}
