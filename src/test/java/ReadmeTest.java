import java.io.IOException;
import java.lang.reflect.Method;
import java.lang.reflect.Modifier;
import java.nio.file.Files;
import java.nio.file.Path;
import java.util.ArrayList;
import java.util.List;
import java.util.Set;
import java.util.TreeSet;
import java.util.regex.Matcher;
import java.util.regex.Pattern;
import java.util.stream.Collectors;
import java.util.stream.Stream;

/**
 * README.md is there, its example is code that answers what it says, it tells every call, and the
 * way that it gives to run the tests is .ci/run. Runs in the project's directory, as .ci/run does.
 */
public final class ReadmeTest {
    private static final Path README = Path.of("README.md");
    private static final Path SELF = Path.of("src/test/java/ReadmeTest.java");
    private static final Path RUN = Path.of(".ci/run");

    private static int wrong = 0;

    public static void main(String[] args) throws IOException {
        if (!Files.isRegularFile(README)) {
            System.out.println("README.md is not there");
            System.exit(1);
        }
        List<String> readme = Files.readAllLines(README);
        answersOfTheExample();
        exampleIsTheOneOfThisFile(readme);
        everyCallIsTold(readme);
        testsAreRunBy(readme);
        everyTestIsTold(readme);
        System.out.println("README.md: " + wrong + " things not as due");
        if (wrong != 0) {
            System.exit(1);
        }
    }

    private static void answersOfTheExample() {
        // The example begins.
        CraneTurns x = new CraneTurns();
        x.track(2, 10, 5, 4);            // 2 cranes, gap 10, 5 places a second, 4 seconds to lift or set
        x.crane(1, 100, 60, 200);        // crane 1 stands at 100 and reaches 60 .. 200
        int inner = x.job(40, 90, 0);    // 0: the job's number; from 40 to 90, ready at second 0
        int outer = x.job(150, 80, 0);   // 1
        int least = x.plan(300);         // 34: the seconds of the best way; -1 if none is done in 300
        for (int k = 0; x.planned(k) >= 0; k++) {
            x.give(x.planned(k) / 10, x.planned(k) % 10);   // 0 (job 0, crane 0), then 11 (job 1, crane 1)
        }
        int clock = x.run(least);        // 34
        int innerDone = x.state(inner, 2);   // 26: the second in which it was done
        int outerDone = x.state(outer, 2);   // 34
        int blocked = x.at(1, 4);        // 2: crane 1 stood behind crane 0 till that was done
        int place = x.at(0, 0);          // 70: crane 0 gave way then
        int near = x.near();             // 10: the least distance of the two so far
        // The example ends.
        due("inner", 0, inner);
        due("outer", 1, outer);
        due("least", 34, least);
        due("planned(0)", 0, x.planned(0));
        due("planned(1)", 11, x.planned(1));
        due("planned(2)", -1, x.planned(2));
        due("clock", 34, clock);
        due("innerDone", 26, innerDone);
        due("outerDone", 34, outerDone);
        due("blocked", 2, blocked);
        due("place", 70, place);
        due("near", 10, near);
    }

    private static void exampleIsTheOneOfThisFile(List<String> readme) throws IOException {
        List<String> told = between(readme, "```java", "```");
        List<String> run = between(Files.readAllLines(SELF), "// The example begins.", "// The example ends.");
        if (told.isEmpty() || !told.equals(run)) {
            tell("the example is not the one that this test runs: " + told);
        }
    }

    private static void everyCallIsTold(List<String> readme) {
        Set<String> due = new TreeSet<>();
        for (Method m : CraneTurns.class.getDeclaredMethods()) {
            if (Modifier.isPublic(m.getModifiers())) {
                due.add(m.getName() + "/" + m.getParameterCount());
            }
        }
        Set<String> told = new TreeSet<>();
        Pattern row = Pattern.compile("\\| `(\\w+)\\(([^)]*)\\)` \\|.*");
        for (String line : readme) {
            Matcher m = row.matcher(line);
            if (m.matches()) {
                told.add(m.group(1) + "/" + (m.group(2).isEmpty() ? 0 : m.group(2).split(",").length));
            }
        }
        if (!told.equals(due)) {
            tell("the calls told are " + told + ", due is " + due);
        }
    }

    private static void testsAreRunBy(List<String> readme) {
        int heading = readme.indexOf("## Tests");
        List<String> commands = heading < 0 ? List.of() : readme.subList(heading, readme.size()).stream()
                .filter(line -> line.startsWith("    ")).map(String::trim).collect(Collectors.toList());
        if (!commands.equals(List.of(RUN.toString()))) {
            tell("the way to run the tests is " + commands + ", due is " + RUN);
        }
        if (!Files.isRegularFile(RUN)) {
            tell(RUN + " is not there");
        }
    }

    private static void everyTestIsTold(List<String> readme) throws IOException {
        Set<String> due = new TreeSet<>();
        try (Stream<Path> tests = Files.list(SELF.getParent())) {
            tests.forEach(test -> due.add(test.getFileName().toString().replace(".java", "")));
        }
        Set<String> told = new TreeSet<>();
        Matcher m = Pattern.compile("`(\\w+Test)`").matcher(String.join("\n", readme));
        while (m.find()) {
            told.add(m.group(1));
        }
        if (!told.equals(due)) {
            tell("the tests told are " + told + ", due is " + due);
        }
    }

    /** The lines behind the first and ahead of the last, without what they are indented by. */
    private static List<String> between(List<String> lines, String first, String last) {
        List<String> found = new ArrayList<>();
        int begin = indexOfTrimmed(lines, 0, first);
        int end = begin < 0 ? -1 : indexOfTrimmed(lines, begin + 1, last);
        if (end < 0) {
            return found;
        }
        int indent = lines.get(begin).length() - first.length();
        for (String line : lines.subList(begin + 1, end)) {
            found.add(line.substring(Math.min(indent, line.length())));
        }
        return found;
    }

    private static int indexOfTrimmed(List<String> lines, int from, String text) {
        for (int i = from; i < lines.size(); i++) {
            if (lines.get(i).trim().equals(text)) {
                return i;
            }
        }
        return -1;
    }

    private static void due(String what, int want, int got) {
        if (want != got) {
            tell("the example's " + what + " is " + got + ", due is " + want);
        }
    }

    private static void tell(String what) {
        wrong++;
        System.out.println(what);
    }
}
