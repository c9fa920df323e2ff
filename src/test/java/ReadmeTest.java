import java.io.IOException;
import java.nio.file.Files;
import java.nio.file.Path;
import java.util.ArrayList;
import java.util.List;
import java.util.regex.Matcher;
import java.util.regex.Pattern;

/**
 * README.md says of an answer what the document says: the calls in its examples
 * answer what stands behind them, and its table has a row for every promise, in
 * the document's order and words.
 */
public final class ReadmeTest {
    private static final Path PAGE = Path.of("README.md");
    private static final Path DOCUMENT = Path.of("../shared/DOC.md");
    private static final Pattern EXAMPLE = Pattern.compile("```java\n(.*?)```", Pattern.DOTALL);
    private static final Pattern MADE =
            Pattern.compile("SplicedChain chain = new SplicedChain\\((-?\\d+)\\);.*");
    private static final Pattern CALL =
            Pattern.compile("chain\\.(\\w+)\\(([-\\d, ]*)\\); +// (throws \\w+|[^:]+)(?:: .*)?");
    private static final Pattern TABLE_ROW =
            Pattern.compile("^\\| `([^`]+)` \\|(.*)\\|(.*)\\|$", Pattern.MULTILINE);
    private static final Pattern PROMISE =
            Pattern.compile("## Promise \\d+: [^\n]+\n+`([^`]+)`: (.*?)(?=\n## |$)", Pattern.DOTALL);

    private static int wrong = 0;
    private static int calls = 0;

    private static void fault(String text) {
        wrong++;
        System.out.println(text);
    }

    private static String plain(String text) {
        return text.replaceAll("\\s+", " ").trim();
    }

    private static int[] numbers(String list) {
        String[] parts = list.isBlank() ? new String[0] : list.split(",");
        int[] numbers = new int[parts.length];
        for (int i = 0; i < parts.length; i++) {
            numbers[i] = Integer.parseInt(parts[i].trim());
        }
        return numbers;
    }

    private static Object answer(SplicedChain x, String name, int[] p) {
        try {
            return switch (name) {
                case "write" -> x.write(p[0], p[1]);
                case "read" -> x.read(p[0]);
                case "deliver" -> x.deliver(p[0]);
                case "acknowledge" -> x.acknowledge(p[0]);
                case "fail" -> x.fail(p[0]);
                case "repair" -> x.repair();
                case "resync" -> x.resync(p[0]);
                case "replied" -> x.replied(p[0]);
                case "head" -> x.head();
                case "tail" -> x.tail();
                case "valueAt" -> x.valueAt(p[0], p[1]);
                case "history" -> x.history(p[0]);
                case "sent" -> x.sent(p[0]);
                case "waiting" -> x.waiting(p[0]);
                case "lag" -> (Object) x.lag();
                default -> "no such call";
            };
        } catch (RuntimeException e) {
            return "throws " + e.getClass().getSimpleName();
        }
    }

    private static void example(String text) {
        SplicedChain x = null;
        for (String line : text.split("\n")) {
            Matcher made = MADE.matcher(line);
            Matcher call = CALL.matcher(line);
            if (made.matches()) {
                x = new SplicedChain(Integer.parseInt(made.group(1)));
            } else if (x != null && call.matches()) {
                calls++;
                String got = String.valueOf(answer(x, call.group(1), numbers(call.group(2))));
                if (!got.equals(call.group(3).trim())) {
                    fault("example: " + line + " answered " + got);
                }
            } else {
                fault("example: not understood: " + line);
            }
        }
    }

    private static List<String> promises(String document) {
        List<String> promises = new ArrayList<>();
        Matcher promise = PROMISE.matcher(document);
        while (promise.find()) {
            String declared = promise.group(1).replaceAll(" throws .*", "");
            promises.add(declared + " " + plain(promise.group(2)));
        }
        return promises;
    }

    private static List<String> tableRows(String page) {
        List<String> rows = new ArrayList<>();
        Matcher row = TABLE_ROW.matcher(page);
        while (row.find()) {
            rows.add(plain(row.group(1) + " " + row.group(2) + " " + row.group(3)));
        }
        return rows;
    }

    private static void compare(List<String> rows, List<String> promises) {
        if (promises.size() != 16) {
            fault("the document is read wrongly: " + promises.size() + " promises");
        }
        if (rows.size() != promises.size()) {
            fault("the table has " + rows.size() + " rows, due are " + promises.size());
        }
        for (int i = 0; i < Math.min(rows.size(), promises.size()); i++) {
            if (!rows.get(i).equals(promises.get(i))) {
                fault("table: " + rows.get(i) + "\ndue is: " + promises.get(i));
            }
        }
    }

    public static void main(String[] args) throws IOException {
        String page = Files.readString(PAGE);
        Matcher example = EXAMPLE.matcher(page);
        while (example.find()) {
            example(example.group(1));
        }
        if (calls == 0) {
            fault("no example is there");
        }
        compare(tableRows(page), promises(Files.readString(DOCUMENT)));
        System.out.println(wrong == 0 ? calls + " calls of the examples and the table are as due"
                : wrong + " things on the page are not as due");
        if (wrong != 0) {
            System.exit(1);
        }
    }
}
