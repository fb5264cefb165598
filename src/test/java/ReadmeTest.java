import java.io.IOException;
import java.lang.reflect.Method;
import java.lang.reflect.Modifier;
import java.nio.file.Files;
import java.nio.file.Path;
import java.util.ArrayList;
import java.util.List;
import java.util.Set;
import java.util.TreeSet;
import java.util.regex.Matcher;
import java.util.regex.Pattern;

/** README.md tells the truth: the answers behind the calls of its example, and a row for every call. */
public final class ReadmeTest {
    private static final Pattern EXAMPLE = Pattern.compile("train\\.(\\w+)\\((.*)\\); +// (-?[0-9.]+): .+");
    private static final Pattern ROW = Pattern.compile("\\| `(\\w+)\\((.*)\\)` \\| .+ \\|");
    private static final Pattern ANY_CALL = Pattern.compile("train\\..*");

    private static final Check check = new Check("ReadmeTest");

    // .ci/run starts each test in the project's own folder.
    public static void main(String[] args) throws IOException {
        List<String> lines = Files.readAllLines(Path.of("README.md"));
        exampleAnswersSo(lines);
        tableTellsEveryCall(lines);
        check.end();
    }

    private static void exampleAnswersSo(List<String> lines) {
        NightSorters train = new NightSorters();
        int calls = 0;
        int told = 0;
        for (String line : lines) {
            calls += ANY_CALL.matcher(line).matches() ? 1 : 0;
            Matcher call = EXAMPLE.matcher(line);
            if (call.matches()) {
                told++;
                String got = Calls.answer(train, call.group(1), numbers(call.group(2)));
                check.same(line, got, call.group(3));
            }
        }
        check.same("there is an example", told > 0 ? 1 : 0, 1);
        check.same("calls of it that tell their answer", told, calls);
    }

    private static void tableTellsEveryCall(List<String> lines) {
        List<String> told = new ArrayList<>();
        for (String line : lines) {
            Matcher row = ROW.matcher(line);
            if (row.matches()) {
                told.add(row.group(1) + "/" + parts(row.group(2)).size());
            }
        }
        Set<String> due = new TreeSet<>();
        for (Method method : NightSorters.class.getDeclaredMethods()) {
            if (Modifier.isPublic(method.getModifiers())) {
                due.add(method.getName() + "/" + method.getParameterCount());
            }
        }
        check.same("rows", told.size(), due.size());
        check.same("calls told in the table", new TreeSet<>(told).toString(), due.toString());
    }

    private static List<String> parts(String arguments) {
        return arguments.isEmpty() ? List.of() : List.of(arguments.split(", "));
    }

    private static int[] numbers(String arguments) {
        List<String> parts = parts(arguments);
        int[] numbers = new int[parts.size()];
        for (int i = 0; i < numbers.length; i++) {
            for (String term : parts.get(i).split(" \\| ")) {
                numbers[i] |= shifted(term);
            }
        }
        return numbers;
    }

    /** A number, or one shifted by another: "1 << 15". */
    private static int shifted(String term) {
        String[] sides = term.split(" << ");
        int number = Integer.parseInt(sides[0]);
        return sides.length == 1 ? number : number << Integer.parseInt(sides[1]);
    }
}
