import java.nio.file.Files;
import java.nio.file.Path;
import java.util.HashMap;
import java.util.Map;
import java.util.regex.Matcher;
import java.util.regex.Pattern;

/** The calls that README.md shows: each answers as its comment says, on an object of its name. */
public final class ReadmeTest {
    private static final Pattern MADE = Pattern.compile("FathomRoom (\\w+) = new FathomRoom\\(\\);");
    private static final Pattern CALL = Pattern.compile("(\\w+)\\.(\\w+)\\(([^)]*)\\); +// (-?\\d+)(?::.*)?");

    public static void main(String[] args) throws Exception {
        Due due = new Due("ReadmeTest");
        Map<String, House> houses = new HashMap<>();
        boolean java = false;
        for (String line : Files.readAllLines(Path.of("README.md"))) {
            if (line.startsWith("```")) {
                java = line.equals("```java");
            } else if (java) {
                ask(due, houses, line);
            }
        }
        due.end();
    }

    private static void ask(Due due, Map<String, House> houses, String line) {
        Matcher made = MADE.matcher(line);
        Matcher call = CALL.matcher(line);
        if (made.matches()) {
            houses.put(made.group(1), new House(due));
        } else if (call.matches() && houses.containsKey(call.group(1))) {
            int answer = Integer.parseInt(call.group(4));
            String name = call.group(2);
            houses.get(call.group(1)).ask(Calls.promise(name), answer, name, numbers(call.group(3)));
        } else {
            due.is("README.md: " + line, 0, 1);
        }
    }

    private static int[] numbers(String list) {
        if (list.isEmpty()) {
            return new int[0];
        }
        String[] told = list.split(", ");
        int[] numbers = new int[told.length];
        for (int i = 0; i < told.length; i++) {
            numbers[i] = Integer.decode(told[i]);
        }
        return numbers;
    }
}
