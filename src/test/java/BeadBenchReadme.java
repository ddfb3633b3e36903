import java.io.IOException;
import java.lang.reflect.Field;
import java.lang.reflect.Method;
import java.lang.reflect.Modifier;
import java.nio.file.Files;
import java.nio.file.Path;
import java.util.ArrayList;
import java.util.HashMap;
import java.util.HashSet;
import java.util.List;
import java.util.Map;
import java.util.Set;
import java.util.regex.Matcher;
import java.util.regex.Pattern;

/** The calls that README.md shows, with the answers and rows that stand behind them. Runs in the project's root. */
public final class BeadBenchReadme {
    private static final String INTS = "((?:-?\\d+(?:, -?\\d+)*)?)";
    private static final Pattern MAKING = Pattern.compile("BeadBench (\\w+) = new BeadBench\\(\\);(?:\\s+// .*)?");
    private static final Pattern CALL = Pattern.compile("(\\w+)\\.(\\w+)\\(" + INTS + "\\);\\s+// (.*)");
    private static final Pattern ANSWER = Pattern.compile("(true|false|-?\\d+)(?: \\(([A-Z_]+)\\))?(?:: (.*))?");
    private static final Pattern ROW = Pattern.compile("tray (\\d+) has (-?\\d+(?: -?\\d+)*)$");
    private static final Pattern CALL_ANYWHERE = Pattern.compile("\\w+\\.\\w+\\([^)]*\\)");

    private final List<String> complaints = new ArrayList<>();
    private final Set<String> shown = new HashSet<>();
    private final Map<String, BeadBench> made = new HashMap<>();
    private int calls = 0;
    private String place = "";

    private BeadBenchReadme(List<String> lines) throws ReflectiveOperationException {
        boolean inBlock = false;
        for (int i = 0; i < lines.size(); i++) {
            String line = lines.get(i);
            place = "README.md:" + (i + 1) + ": ";
            if (line.startsWith("```")) {
                inBlock = line.equals("```java");
                made.clear();
            } else if (inBlock && !line.isBlank()) {
                statement(line);
            } else if (CALL_ANYWHERE.matcher(line).find()) {
                complain("a call outside of a block of Java, where nothing runs it");
            }
        }
    }

    private void complain(String words) {
        complaints.add(place + words);
    }

    private void statement(String line) throws ReflectiveOperationException {
        Matcher making = MAKING.matcher(line);
        Matcher call = CALL.matcher(line);
        if (making.matches()) {
            if (made.put(making.group(1), new BeadBench()) != null) {
                complain(making.group(1) + " is made twice in one block");
            }
        } else if (call.matches()) {
            Matcher answer = ANSWER.matcher(call.group(4));
            if (answer.matches()) {
                run(call, answer);
            } else {
                complain("no answer behind the call");
            }
        } else {
            complain("neither 'BeadBench name = new BeadBench();' nor 'name.call(ints); // answer: remark'");
        }
    }

    private void run(Matcher call, Matcher answer) throws ReflectiveOperationException {
        BeadBench bench = made.get(call.group(1));
        String[] ints = call.group(3).isEmpty() ? new String[0] : call.group(3).split(", ");
        Method method = method(call.group(2), ints.length);
        if (bench == null || method == null) {
            complain("there is no such object or method");
            return;
        }
        Object[] arguments = new Object[ints.length];
        for (int i = 0; i < ints.length; i++) {
            arguments[i] = Integer.valueOf(ints[i]);
        }
        calls++;
        shown.add(method.getName());
        String got = method.invoke(bench, arguments).toString();
        due(call.group(2) + "(" + call.group(3) + ")", got, answer.group(1));
        if (answer.group(2) != null) {
            named(answer.group(2), got);
        }
        if (answer.group(3) != null) {
            row(bench, answer.group(3));
        }
    }

    private static Method method(String name, int parameters) {
        for (Method m : BeadBench.class.getDeclaredMethods()) {
            boolean alike = m.getName().equals(name) && m.getParameterCount() == parameters;
            if (alike && Modifier.isPublic(m.getModifiers())) {
                return m;
            }
        }
        return null;
    }

    private void due(String what, String got, String want) {
        if (!got.equals(want)) {
            complain(what + " answered " + got + ", README.md says " + want);
        }
    }

    private void named(String name, String got) throws ReflectiveOperationException {
        for (Field f : BeadBench.class.getFields()) {
            if (f.getName().equals(name)) {
                shown.add(name);
                due(name, f.get(null).toString(), got);
                return;
            }
        }
        complain("there is no constant " + name);
    }

    /** A remark without 'tray t has' says nothing that could be run. */
    private void row(BeadBench bench, String remark) {
        if (!remark.matches(".*tray \\d+ has.*")) {
            return;
        }
        Matcher row = ROW.matcher(remark);
        if (!row.find()) {
            complain("'tray t has' must go on with numbers alone, up to the line's end");
            return;
        }
        int tray = Integer.parseInt(row.group(1));
        StringBuilder got = new StringBuilder();
        for (int i = 0; i < bench.tray(tray, 1); i++) {
            got.append(i == 0 ? "" : " ").append(bench.at(tray, i));
        }
        due("tray " + tray + " by at()", got.toString(), row.group(2));
    }

    /** All of the face must be shown, as README.md is what says how the class is used. */
    private void whole() {
        place = "README.md: ";
        for (Method m : BeadBench.class.getDeclaredMethods()) {
            if (Modifier.isPublic(m.getModifiers()) && !shown.contains(m.getName())) {
                complain("no call of " + m.getName() + "() is shown");
            }
        }
        for (Field f : BeadBench.class.getFields()) {
            if (!shown.contains(f.getName())) {
                complain("no call that answers " + f.getName() + " is shown");
            }
        }
    }

    /** That a wrong README.md is found out, whatever stands in the one that is there. */
    private static List<String> slips() throws ReflectiveOperationException {
        String[][] told = {
            {"lay(0, 6, 2);  // 2: tray 0 has 0 0", "0"}, {"lay(0, 6, 2);  // 3", "1"}, {"lay(0, 6, 2);", "1"},
            {"lay(0, 6, 2);  // two", "1"}, {"lay(0, 6, 2);  // 2: tray 0 has 0 1", "1"},
            {"lay(0, 6, 2);  // 2: tray 0 has 0", "1"}, {"lay(0, 6, 2);  // 2: tray 0 has 0 0 0", "1"},
            {"lay(0, 6, 2);  // 2: tray 0 has two 0", "1"}, {"lay(0, 6);  // 2", "1"}, {"laid(0, 6, 2);  // 2", "1"},
            {"undo();  // -1 (MISSING): none", "0"}, {"undo();  // -1 (BAD): none", "1"},
            {"undo();  // -1 (NONE): none", "1"}, {"undo();  // -2 (NO_ROW): none", "2"},
            {"ticket(0, 1, 5);  // true", "0"}, {"ticket(0, 1, 5);  // false", "1"}};
        List<String> slips = new ArrayList<>();
        for (String[] t : told) {
            List<String> lines = List.of("```java", "BeadBench x = new BeadBench();", "x." + t[0], "```");
            int found = new BeadBenchReadme(lines).complaints.size();
            if (found != Integer.parseInt(t[1])) {
                slips.add("this test finds " + found + " faults in 'x." + t[0] + "', due is " + t[1]);
            }
        }
        if (new BeadBenchReadme(List.of("`x.undo()` answers -5.")).complaints.isEmpty()) {
            slips.add("this test finds no fault in a call outside of a block");
        }
        if (new BeadBenchReadme(List.of("```java", "x.undo();  // -1", "```")).complaints.isEmpty()) {
            slips.add("this test finds no fault in a call on an object that wasn't made");
        }
        return slips;
    }

    public static void main(String[] args) throws IOException, ReflectiveOperationException {
        BeadBenchReadme readme = new BeadBenchReadme(Files.readAllLines(Path.of("README.md")));
        readme.whole();
        List<String> wrong = new ArrayList<>(readme.complaints);
        wrong.addAll(slips());
        wrong.forEach(System.out::println);
        String outcome = wrong.isEmpty() ? "all answers are as README.md says" : wrong.size() + " faults";
        System.out.println(readme.calls + " calls of README.md, " + outcome);
        if (!wrong.isEmpty()) {
            System.exit(1);
        }
    }
}
