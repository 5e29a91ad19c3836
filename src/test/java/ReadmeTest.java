import java.io.IOException;
import java.lang.reflect.Method;
import java.lang.reflect.Modifier;
import java.nio.file.Files;
import java.nio.file.Path;
import java.util.ArrayList;
import java.util.HashMap;
import java.util.List;
import java.util.Map;
import java.util.TreeSet;
import java.util.regex.Matcher;
import java.util.regex.Pattern;

/** What README.md says of the class is so. It is run from the project's folder, where README.md lies. */
public final class ReadmeTest {
    private static final Pattern MADE = Pattern.compile("FountainDesk (\\w+) = new FountainDesk\\(\\);");
    private static final Pattern CALL = Pattern.compile("(\\w+)\\.(\\w+)\\(([^)]*)\\);\\s*(?:// (.*))?");
    private static final Pattern LISTED = Pattern.compile("\\| `(\\w+)\\(.*");

    private static final Check CHECK = new Check();

    public static void main(String[] args) throws IOException {
        List<String> lines = Files.readAllLines(Path.of("README.md"));
        examplesAnswerAsWritten(lines);
        allCallsAreListed(lines);
        CHECK.finish();
    }

    private static void examplesAnswerAsWritten(List<String> lines) {
        Map<String, FountainDesk> desks = new HashMap<>();
        for (String line : exampleLines(lines)) {
            Matcher made = MADE.matcher(line);
            Matcher call = CALL.matcher(line);
            if (made.matches()) {
                desks.put(made.group(1), new FountainDesk());
            } else if (call.matches() && desks.containsKey(call.group(1))) {
                String got = Calls.answer(desks.get(call.group(1)), call.group(2), numbers(call.group(3)));
                CHECK.same(line, got, written(got, call.group(4)));
            } else {
                CHECK.same(line, "no call of a desk", "a call of a desk");
            }
        }
        CHECK.same("examples make desks", desks.isEmpty(), false);
    }

    private static List<String> exampleLines(List<String> lines) {
        List<String> found = new ArrayList<>();
        boolean inside = false;
        for (String line : lines) {
            if (line.startsWith("```")) {
                inside = line.equals("```java");
            } else if (inside) {
                found.add(line);
            }
        }
        return found;
    }

    /** The answer stands in front of a colon; a call without an answer has none. */
    private static String written(String got, String comment) {
        if (got.equals(Edges.DONE) && (comment == null || !comment.contains(":"))) {
            return got;
        }
        return comment == null ? "nothing written" : comment.split(":")[0];
    }

    private static Object[] numbers(String text) {
        String[] pieces = text.isEmpty() ? new String[0] : text.split(", ");
        Object[] all = new Object[pieces.length];
        for (int i = 0; i < all.length; i++) {
            all[i] = Long.decode(pieces[i]).intValue();
        }
        return all;
    }

    private static void allCallsAreListed(List<String> lines) {
        TreeSet<String> listed = new TreeSet<>();
        for (String line : lines) {
            Matcher one = LISTED.matcher(line);
            if (one.matches()) {
                listed.add(one.group(1));
            }
        }
        TreeSet<String> due = new TreeSet<>();
        for (Method one : FountainDesk.class.getDeclaredMethods()) {
            if (Modifier.isPublic(one.getModifiers())) {
                due.add(one.getName());
            }
        }
        CHECK.same("the calls that README.md lists", listed.toString(), due.toString());
    }
}
