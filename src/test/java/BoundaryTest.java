import java.io.IOException;
import java.nio.file.Files;
import java.nio.file.Path;
import java.util.ArrayList;
import java.util.BitSet;
import java.util.HashSet;
import java.util.LinkedHashMap;
import java.util.List;
import java.util.Map;
import java.util.Set;
import java.util.regex.Matcher;
import java.util.regex.Pattern;

/**
 * The boundary cases, sentence by sentence. Each test names a promise (or the
 * Terms) and quotes the words of ../shared/DOC.md that it holds; behind them
 * stand runs of calls on new objects, with the answers that are due, worked out
 * from the document by hand.
 *
 * A call that must change nothing is tried a second time on a new object: what
 * later calls answer must be the same as on an object that never had the call.
 *
 * At the end the quotes are laid over the document: words of the Terms or of a
 * promise that no test quotes are a fault too.
 */
public final class BoundaryTest {
    private static final int MOST_CALLS = 512;
    private static final Path DOCUMENT = Path.of("../shared/DOC.md");
    private static final Pattern ROW =
            Pattern.compile("(?:(\\d+) times )?(\\w+)\\(([^)]*)\\) = (\\S+)(?: \\.\\. (\\d+))?");
    private static final Set<String> LOOKING = Set.of("read", "replied", "head", "tail", "valueAt",
            "history", "sent", "waiting", "lag");

    private static final Map<String, String> sections = new LinkedHashMap<>();
    private static final Map<String, BitSet> quoted = new LinkedHashMap<>();
    private static final Set<String> sentences = new HashSet<>();
    private static int wrong = 0;
    private static int runs = 0;

    private record Call(String name, int[] arguments, String due) {
        static Call of(String name, int... arguments) {
            return new Call(name, arguments, "");
        }

        boolean mustChangeNothing() {
            return due.startsWith("throws.") || LOOKING.contains(name)
                    || name.equals("fail") && due.equals("false")
                    || name.equals("repair") && due.equals("0");
        }

        boolean repeats(Call other) {
            return told().equals(other.told()) && due.equals(other.due);
        }

        String answerOf(SplicedChain x) {
            try {
                return String.valueOf(answered(x));
            } catch (RuntimeException e) {
                return "throws." + e.getClass().getSimpleName();
            }
        }

        private Object answered(SplicedChain x) {
            return switch (name) {
                case "write" -> x.write(arguments[0], arguments[1]);
                case "read" -> x.read(arguments[0]);
                case "deliver" -> x.deliver(arguments[0]);
                case "acknowledge" -> x.acknowledge(arguments[0]);
                case "fail" -> x.fail(arguments[0]);
                case "repair" -> x.repair();
                case "resync" -> x.resync(arguments[0]);
                case "replied" -> x.replied(arguments[0]);
                case "head" -> x.head();
                case "tail" -> x.tail();
                case "valueAt" -> x.valueAt(arguments[0], arguments[1]);
                case "history" -> x.history(arguments[0]);
                case "sent" -> x.sent(arguments[0]);
                case "waiting" -> x.waiting(arguments[0]);
                case "lag" -> (Object) x.lag();
                default -> throw new AssertionError("no such call: " + name);
            };
        }

        String told() {
            StringBuilder s = new StringBuilder(name).append('(');
            for (int i = 0; i < arguments.length; i++) {
                s.append(i == 0 ? "" : ", ").append(arguments[i]);
            }
            return s.append(')').toString();
        }
    }

    private record Run(int asked, List<Call> calls) {
        int nodes() {
            return asked >= 1 && asked <= 6 ? asked : 3;
        }

        /** A new object after the first so many calls of the run. */
        SplicedChain after(int count) {
            SplicedChain x = new SplicedChain(asked);
            for (Call call : calls.subList(0, count)) {
                call.answerOf(x);
            }
            return x;
        }
    }

    /**
     * Later calls on an object, written down with what they answered. They look
     * first and are refused as late as can be: a refused call that does change
     * something would hide here what it changed before.
     */
    private static final class Aftermath {
        private final SplicedChain x;
        private final int nodes;
        private final StringBuilder seen = new StringBuilder();
        private int callsLeft;
        private String lastAnswer = "";

        Aftermath(SplicedChain x, int nodes, int callsLeft) {
            this.x = x;
            this.nodes = nodes;
            this.callsLeft = callsLeft;
        }

        /** Whether the call was answered and did not throw. */
        boolean call(String name, int... arguments) {
            if (callsLeft == 0) {
                return false;
            }
            callsLeft--;
            Call call = Call.of(name, arguments);
            lastAnswer = call.answerOf(x);
            seen.append(call.told()).append(' ').append(lastAnswer).append('\n');
            return !lastAnswer.startsWith("throws.");
        }

        void onAll(String name) {
            for (int node = 0; node < nodes; node++) {
                call(name, node);
            }
        }

        void failEnd(String end) {
            if (call(end)) {
                call("fail", Integer.parseInt(lastAnswer));
            }
        }

        void look() {
            call("head");
            call("tail");
            call("lag");
            onAll("history");
            onAll("sent");
            onAll("waiting");
            for (int number = 0; number <= 41; number++) {
                call("replied", number);
            }
            for (int key = 0; key < 8; key++) {
                for (int node = 0; node < nodes; node++) {
                    call("valueAt", node, key);
                }
            }
            for (int key = 0; key < 8; key++) {
                call("read", key);
            }
        }

        void drain() {
            for (int node = 0; node < nodes; node++) {
                for (int i = 0; i < 41 && call("deliver", node); i++) {
                    call("waiting", node);
                }
            }
            for (int node = nodes - 1; node >= 0; node--) {
                for (int i = 0; i < 41 && call("acknowledge", node); i++) {
                    call("sent", node);
                }
            }
        }

        void tell(int kind) {
            switch (kind) {
                case 0 -> look();
                case 1 -> {
                    call("write", 3, 4242);
                    onAll("waiting");
                    onAll("deliver");
                    onAll("acknowledge");
                    onAll("waiting");
                    onAll("sent");
                    look();
                }
                case 2 -> {
                    drain();
                    look();
                }
                case 3 -> {
                    onAll("resync");
                    drain();
                    look();
                }
                case 4 -> {
                    call("repair");
                    call("write", 6, 99);
                    onAll("waiting");
                    onAll("resync");
                    drain();
                    look();
                }
                case 5 -> {
                    failEnd("head");
                    call("repair");
                    call("write", 1, -5);
                    onAll("resync");
                    drain();
                    look();
                }
                case 6 -> {
                    failEnd("tail");
                    call("repair");
                    look();
                }
                default -> {
                    onAll("fail");
                    call("repair");
                    call("write", 2, 8);
                    look();
                }
            }
        }
    }

    private static final int KINDS_OF_AFTERMATH = 8;

    /** Five nodes with histories 8, 7, 6, 5, 4, and on each link one update and one acknowledgement. */
    private static final String BUSY = """
            new SplicedChain(5)
            write(0, 10) = 1
            write(1, 11) = 2
            write(2, 12) = 3
            write(3, 13) = 4
            write(4, 14) = 5
            write(0, 15) = 6
            write(5, 16) = 7
            write(0, 17) = 8
            deliver(1) = 1 .. 7
            deliver(2) = 1 .. 6
            deliver(3) = 1 .. 5
            deliver(4) = 1 .. 4
            acknowledge(3) = 1 .. 3
            acknowledge(2) = 1 .. 2
            acknowledge(1) = 1
            """;

    /** What is refused in every state of five nodes. */
    private static final String NEVER = """
            write(-1, 9) = throws.IllegalArgumentException
            write(8, 9) = throws.IllegalArgumentException
            read(-1) = throws.IllegalArgumentException
            read(8) = throws.IllegalArgumentException
            deliver(-1) = throws.IllegalArgumentException
            deliver(5) = throws.IllegalArgumentException
            acknowledge(-1) = throws.IllegalArgumentException
            acknowledge(5) = throws.IllegalArgumentException
            fail(-1) = throws.IllegalArgumentException
            fail(5) = throws.IllegalArgumentException
            resync(-1) = throws.IllegalArgumentException
            resync(5) = throws.IllegalArgumentException
            valueAt(-1, 0) = throws.IllegalArgumentException
            valueAt(5, 0) = throws.IllegalArgumentException
            valueAt(0, -1) = throws.IllegalArgumentException
            valueAt(0, 8) = throws.IllegalArgumentException
            history(-1) = throws.IllegalArgumentException
            history(5) = throws.IllegalArgumentException
            sent(-1) = throws.IllegalArgumentException
            sent(5) = throws.IllegalArgumentException
            waiting(-1) = throws.IllegalArgumentException
            waiting(5) = throws.IllegalArgumentException
            """;

    private static void fault(String text) {
        wrong++;
        System.out.println(text);
    }

    private static String aftermath(Run run, int calls, int callsLeft, int kind) {
        Aftermath aftermath = new Aftermath(run.after(calls), run.nodes(), callsLeft);
        aftermath.tell(kind);
        return aftermath.seen.toString();
    }

    private static void changesNothing(String where, Run run, int index) {
        int callsLeft = MOST_CALLS - index - 1;
        for (int kind = 0; kind < KINDS_OF_AFTERMATH; kind++) {
            String with = aftermath(run, index + 1, callsLeft, kind);
            String without = aftermath(run, index, callsLeft, kind);
            if (!with.equals(without)) {
                fault(where + " must change nothing, but later calls answer otherwise");
                return;
            }
        }
    }

    private static int[] numbersIn(String text) {
        String[] parts = text.isBlank() ? new String[0] : text.split(", ");
        int[] numbers = new int[parts.length];
        for (int i = 0; i < parts.length; i++) {
            numbers[i] = Integer.parseInt(parts[i]);
        }
        return numbers;
    }

    /** A row is "call = answer", "call = first .. last" (answers that count up) or "n times call = answer". */
    private static void addCalls(String row, List<Call> calls) {
        Matcher m = ROW.matcher(row);
        if (!m.matches()) {
            throw new AssertionError("no row of a run: " + row);
        }
        int[] arguments = numbersIn(m.group(3));
        if (m.group(5) != null) {
            for (int i = Integer.parseInt(m.group(4)); i <= Integer.parseInt(m.group(5)); i++) {
                calls.add(new Call(m.group(2), arguments, String.valueOf(i)));
            }
            return;
        }
        int times = m.group(1) == null ? 1 : Integer.parseInt(m.group(1));
        for (int i = 0; i < times; i++) {
            calls.add(new Call(m.group(2), arguments, m.group(4)));
        }
    }

    private static Run parsed(String text) {
        String[] rows = text.strip().split("\n");
        Matcher m = Pattern.compile("new SplicedChain\\((-?\\d+)\\)").matcher(rows[0].strip());
        if (!m.matches()) {
            throw new AssertionError("no new object: " + rows[0]);
        }
        List<Call> calls = new ArrayList<>();
        for (int i = 1; i < rows.length; i++) {
            addCalls(rows[i].strip(), calls);
        }
        return new Run(Integer.parseInt(m.group(1)), calls);
    }

    private static void checkRun(String sentence, Run run) {
        int count = run.calls().size();
        if (count > MOST_CALLS || run.calls().get(count - 1).due().startsWith("throws.")) {
            fault(sentence + ": a run has too many calls, or none behind a refused one");
        }
        SplicedChain x = new SplicedChain(run.asked());
        for (int i = 0; i < count; i++) {
            Call call = run.calls().get(i);
            String where = sentence + ", new SplicedChain(" + run.asked() + "), call " + (i + 1)
                    + ": " + call.told();
            String answer = call.answerOf(x);
            if (!answer.equals(call.due())) {
                fault(where + " answered " + answer + ", due is " + call.due());
                return;
            }
            boolean sameAgain = i > 0 && call.repeats(run.calls().get(i - 1));
            if (call.mustChangeNothing() && !sameAgain) {
                changesNothing(where, run, i);
            }
        }
    }

    private static void held(String section, String quote, String... texts) {
        sentences.add(section + quote);
        int at = sections.getOrDefault(section, "").indexOf(quote);
        if (at < 0) {
            fault("the document does not say under " + section + ": " + quote);
        } else {
            quoted.get(section).set(at, at + quote.length());
        }
        for (String text : texts) {
            runs++;
            checkRun(section + ", \"" + quote + "\"", parsed(text));
        }
    }

    private static void whatItIs() {
        held("What it is", "An object is used for at most 512 calls after it has been made", """
                new SplicedChain(3)
                write(0, 5) = 1 .. 40
                deliver(1) = 1 .. 40
                deliver(2) = 1 .. 40
                300 times write(0, 6) = throws.IllegalStateException
                acknowledge(1) = 1 .. 40
                acknowledge(0) = 1 .. 39
                fail(1) = true
                repair() = 1
                sent(0) = 1
                resync(0) = 0
                waiting(0) = 100
                acknowledge(0) = 40
                sent(0) = 0
                lag() = 0.0
                head() = 0
                tail() = 2
                replied(40) = true
                replied(41) = false
                read(0) = 5
                """);
    }

    private static void termsOfNodes() {
        held("Terms", "NODES have numbers 0, 1, .., one less than how many there are", """
                new SplicedChain(6)
                history(-1) = throws.IllegalArgumentException
                history(0) = 0
                history(5) = 0
                history(6) = throws.IllegalArgumentException
                deliver(6) = throws.IllegalArgumentException
                deliver(5) = throws.NoSuchElementException
                write(0, 1) = 1
                """, """
                new SplicedChain(1)
                history(-1) = throws.IllegalArgumentException
                history(1) = throws.IllegalArgumentException
                history(0) = 0
                """);
        held("Terms", "at first they stand in the CHAIN in this order", """
                new SplicedChain(4)
                write(5, 50) = 1
                deliver(3) = throws.NoSuchElementException
                deliver(2) = throws.NoSuchElementException
                deliver(1) = 1
                deliver(3) = throws.NoSuchElementException
                deliver(2) = 1
                read(5) = 0
                deliver(3) = 1
                read(5) = 50
                acknowledge(0) = throws.NoSuchElementException
                acknowledge(1) = throws.NoSuchElementException
                acknowledge(2) = 1
                acknowledge(0) = throws.NoSuchElementException
                acknowledge(1) = 1
                acknowledge(0) = 1
                """);
        held("Terms", "The first of the chain is the HEAD, the last one the TAIL", """
                new SplicedChain(6)
                head() = 0
                tail() = 5
                """, """
                new SplicedChain(1)
                head() = 0
                tail() = 0
                write(0, 5) = 1
                read(0) = 5
                replied(1) = true
                """);
        held("Terms", "a node's SUCCESSOR is the one behind it in the chain, its PREDECESSOR the one before it", """
                new SplicedChain(4)
                fail(1) = true
                fail(2) = true
                repair() = 2
                resync(0) = 0
                write(1, 10) = 1
                waiting(3) = 1
                deliver(3) = 1
                waiting(0) = 100
                acknowledge(0) = 1
                waiting(0) = 0
                """);
        held("Terms", "A node may have FAILED.", """
                new SplicedChain(2)
                fail(0) = true
                write(0, 1) = throws.IllegalStateException
                deliver(0) = throws.IllegalStateException
                acknowledge(0) = throws.IllegalStateException
                resync(0) = throws.IllegalStateException
                deliver(1) = throws.NoSuchElementException
                read(0) = 0
                """);
        held("Terms", "KEYS are 0 .. 7", """
                new SplicedChain(1)
                write(-1, 5) = throws.IllegalArgumentException
                write(0, 6) = 1
                write(7, 7) = 2
                write(8, 8) = throws.IllegalArgumentException
                read(-1) = throws.IllegalArgumentException
                read(0) = 6
                read(7) = 7
                read(8) = throws.IllegalArgumentException
                valueAt(0, -1) = throws.IllegalArgumentException
                valueAt(0, 8) = throws.IllegalArgumentException
                valueAt(0, 7) = 7
                history(0) = 2
                """);
        held("Terms", "every node has a value for each key, at first 0", """
                new SplicedChain(2)
                valueAt(0, 0) = 0
                valueAt(0, 1) = 0
                valueAt(0, 2) = 0
                valueAt(0, 3) = 0
                valueAt(0, 4) = 0
                valueAt(0, 5) = 0
                valueAt(0, 6) = 0
                valueAt(0, 7) = 0
                valueAt(1, 0) = 0
                valueAt(1, 1) = 0
                valueAt(1, 2) = 0
                valueAt(1, 3) = 0
                valueAt(1, 4) = 0
                valueAt(1, 5) = 0
                valueAt(1, 6) = 0
                valueAt(1, 7) = 0
                """);
    }

    private static void termsOfUpdates() {
        held("Terms", "An UPDATE has a number, a key and a value.", """
                new SplicedChain(2)
                write(0, -2147483648) = 1
                write(7, 2147483647) = 2
                write(3, -1) = 3
                write(3, 0) = 4
                deliver(1) = 1
                read(0) = -2147483648
                deliver(1) = 2
                read(7) = 2147483647
                deliver(1) = 3
                read(3) = -1
                deliver(1) = 4
                read(3) = 0
                """);
        held("Terms", "A node has a HISTORY, a number h, at first 0", """
                new SplicedChain(3)
                history(0) = 0
                history(1) = 0
                history(2) = 0
                write(0, 1) = 1
                history(0) = 1
                history(1) = 0
                """);
        held("Terms", "it has APPLIED the updates 1, 2, .., h, in this order", """
                new SplicedChain(2)
                write(4, 41) = 1
                write(4, 42) = 2
                write(4, 43) = 3
                valueAt(0, 4) = 43
                deliver(1) = 1
                valueAt(1, 4) = 41
                deliver(1) = 2
                valueAt(1, 4) = 42
                history(1) = 2
                deliver(1) = 3
                valueAt(1, 4) = 43
                history(1) = 3
                """);
        held("Terms", "applying one gives its key its value at this node", """
                new SplicedChain(3)
                write(6, 66) = 1
                valueAt(0, 6) = 66
                valueAt(0, 5) = 0
                valueAt(0, 7) = 0
                valueAt(1, 6) = 0
                deliver(1) = 1
                valueAt(1, 6) = 66
                valueAt(1, 5) = 0
                valueAt(1, 7) = 0
                valueAt(2, 6) = 0
                """);
        held("Terms", "It has an ACKNOWLEDGED number a, at first 0", """
                new SplicedChain(2)
                sent(0) = 0
                write(0, 1) = 1
                sent(0) = 1
                deliver(1) = 1
                sent(0) = 1
                acknowledge(0) = 1
                sent(0) = 0
                """);
        held("Terms", "the updates a + 1, .., h that it has applied are SENT (whether or not they were put on the link).",
                """
                new SplicedChain(3)
                write(0, 1) = 1
                fail(1) = true
                write(1, 2) = 2
                waiting(1) = 0
                sent(0) = 2
                repair() = 1
                sent(0) = 2
                write(2, 3) = 3
                sent(0) = 3
                resync(0) = 3
                deliver(2) = 1 .. 3
                acknowledge(0) = 1 .. 3
                sent(0) = 0
                """, """
                new SplicedChain(2)
                write(0, 1) = 1 .. 40
                sent(0) = 40
                deliver(1) = 1 .. 40
                sent(0) = 40
                acknowledge(0) = 1 .. 39
                sent(0) = 1
                acknowledge(0) = 40
                sent(0) = 0
                """);
        held("Terms", "The tail's a is its h.", """
                new SplicedChain(1)
                write(0, 1) = 1
                sent(0) = 0
                write(0, 1) = 2 .. 40
                sent(0) = 0
                """, """
                new SplicedChain(3)
                write(0, 1) = 1 .. 3
                deliver(1) = 1 .. 3
                deliver(2) = 1
                sent(2) = 0
                sent(1) = 3
                fail(2) = true
                sent(1) = 3
                repair() = 1
                sent(1) = 0
                """);
    }

    private static void termsOfLinks() {
        held("Terms", "THE LINK between a node and its successor is OPEN or closed", """
                new SplicedChain(3)
                resync(0) = throws.IllegalStateException
                fail(1) = true
                repair() = 1
                write(0, 1) = 1
                waiting(2) = 0
                resync(0) = 1
                waiting(2) = 1
                resync(0) = throws.IllegalStateException
                waiting(2) = 1
                """);
        held("Terms", "at first all links are open", """
                new SplicedChain(6)
                resync(0) = throws.IllegalStateException
                resync(1) = throws.IllegalStateException
                resync(2) = throws.IllegalStateException
                resync(3) = throws.IllegalStateException
                resync(4) = throws.IllegalStateException
                write(0, 9) = 1
                deliver(1) = 1
                deliver(2) = 1
                deliver(3) = 1
                deliver(4) = 1
                deliver(5) = 1
                read(0) = 9
                """);
        held("Terms", "On it updates go from the node to the successor, and acknowledgements (numbers of updates) "
                + "from the successor to the node", """
                new SplicedChain(2)
                write(0, 1) = 1
                waiting(0) = 0
                waiting(1) = 1
                acknowledge(0) = throws.NoSuchElementException
                deliver(1) = 1
                waiting(0) = 100
                waiting(1) = 0
                deliver(1) = throws.NoSuchElementException
                acknowledge(0) = 1
                waiting(0) = 0
                waiting(1) = 0
                """);
        held("Terms", "each in the order in which they were put on it", """
                new SplicedChain(3)
                write(0, 1) = 1
                write(0, 2) = 2
                deliver(1) = 1
                write(0, 3) = 3
                deliver(1) = 2
                deliver(1) = 3
                deliver(2) = 1
                read(0) = 1
                deliver(2) = 2
                read(0) = 2
                acknowledge(1) = 1
                deliver(2) = 3
                acknowledge(1) = 2 .. 3
                acknowledge(0) = 1 .. 3
                """, """
                new SplicedChain(4)
                write(1, 5) = 1 .. 40
                deliver(1) = 1 .. 40
                deliver(2) = 1 .. 30
                fail(2) = true
                repair() = 1
                resync(1) = 40
                waiting(3) = 40
                deliver(3) = 1 .. 40
                waiting(1) = 4000
                acknowledge(1) = 1 .. 40
                waiting(0) = 4000
                acknowledge(0) = 1 .. 40
                waiting(0) = 0
                """);
        held("Terms", "nothing is put on a closed link", """
                new SplicedChain(4)
                write(0, 7) = 1
                deliver(1) = 1
                deliver(2) = 1
                deliver(3) = 1
                fail(1) = true
                write(0, 8) = 2
                waiting(1) = 0
                acknowledge(2) = 1
                waiting(1) = 0
                repair() = 1
                waiting(0) = 0
                waiting(2) = 0
                write(0, 9) = 3
                waiting(2) = 0
                deliver(2) = throws.NoSuchElementException
                acknowledge(0) = throws.NoSuchElementException
                resync(0) = 2
                waiting(2) = 2
                waiting(0) = 100
                deliver(2) = 2 .. 3
                acknowledge(0) = 1
                """);
        held("Terms", "The client has REPLIES for the updates 1, .., r, at first r is 0.", """
                new SplicedChain(2)
                replied(0) = false
                replied(1) = false
                write(0, 1) = 1 .. 3
                replied(1) = false
                deliver(1) = 1 .. 2
                replied(0) = false
                replied(1) = true
                replied(2) = true
                replied(3) = false
                """);
    }

    private static void termsOfApplying() {
        held("Terms", "TO APPLY an update at a node: its history becomes the update's number, and the key gets the value.",
                """
                new SplicedChain(2)
                write(7, 70) = 1
                history(0) = 1
                valueAt(0, 7) = 70
                write(0, 71) = 2
                history(0) = 2
                valueAt(0, 7) = 70
                valueAt(0, 0) = 71
                history(1) = 0
                deliver(1) = 1
                history(1) = 1
                valueAt(1, 7) = 70
                valueAt(1, 0) = 0
                """);
        held("Terms", "If the node is the tail, the update is ACKNOWLEDGED there", """
                new SplicedChain(1)
                write(0, 1) = 1
                sent(0) = 0
                replied(1) = true
                waiting(0) = 0
                """, """
                new SplicedChain(2)
                write(0, 1) = 1
                replied(1) = false
                sent(0) = 1
                deliver(1) = 1
                replied(1) = true
                sent(1) = 0
                sent(0) = 1
                waiting(0) = 100
                """);
        held("Terms", "else, if the link to the successor is open, the update is put on it.", """
                new SplicedChain(3)
                write(0, 1) = 1
                waiting(1) = 1
                deliver(1) = 1
                waiting(1) = 0
                waiting(2) = 1
                sent(1) = 1
                replied(1) = false
                """, """
                new SplicedChain(3)
                write(0, 1) = 1
                fail(2) = true
                deliver(1) = 1
                waiting(2) = 0
                sent(1) = 1
                replied(1) = false
                waiting(0) = 0
                repair() = 1
                replied(1) = true
                sent(1) = 0
                waiting(0) = 100
                """);
        held("Terms", "TO ACKNOWLEDGE an update at a node: its acknowledged number becomes the update's", """
                new SplicedChain(3)
                write(0, 1) = 1 .. 3
                deliver(1) = 1 .. 3
                deliver(2) = 1 .. 3
                sent(1) = 3
                acknowledge(1) = 1
                sent(1) = 2
                acknowledge(1) = 2 .. 3
                sent(1) = 0
                sent(0) = 3
                history(1) = 3
                """);
        held("Terms", "if the node is the tail, r becomes that number", """
                new SplicedChain(3)
                write(0, 1) = 1 .. 3
                deliver(1) = 1 .. 3
                replied(1) = false
                deliver(2) = 1 .. 2
                replied(2) = true
                replied(3) = false
                acknowledge(1) = 1
                replied(2) = true
                acknowledge(0) = 1
                replied(2) = true
                deliver(2) = 3
                replied(3) = true
                """);
        held("Terms", "if it has a predecessor and the link to that is open, the acknowledgement is put on it.", """
                new SplicedChain(1)
                write(0, 1) = 1
                waiting(0) = 0
                acknowledge(0) = throws.NoSuchElementException
                write(0, 2) = 2
                """, """
                new SplicedChain(3)
                write(0, 1) = 1
                deliver(1) = 1
                deliver(2) = 1
                waiting(1) = 100
                waiting(0) = 0
                acknowledge(1) = 1
                waiting(1) = 0
                waiting(0) = 100
                acknowledge(0) = 1
                waiting(0) = 0
                """, """
                new SplicedChain(3)
                write(0, 1) = 1
                deliver(1) = 1
                fail(0) = true
                deliver(2) = 1
                waiting(1) = 100
                acknowledge(1) = 1
                sent(1) = 0
                waiting(0) = 0
                repair() = 1
                head() = 1
                waiting(1) = 0
                """);
    }

    private static void termsOfFailing() {
        held("Terms", "A node that FAILS keeps its values, history and acknowledged number as they are", """
                new SplicedChain(3)
                write(4, 40) = 1
                write(5, 50) = 2
                deliver(1) = 1 .. 2
                deliver(2) = 1
                acknowledge(1) = 1
                fail(1) = true
                valueAt(1, 4) = 40
                valueAt(1, 5) = 50
                history(1) = 2
                sent(1) = 1
                write(4, 41) = 3
                repair() = 1
                valueAt(1, 4) = 40
                valueAt(1, 5) = 50
                history(1) = 2
                sent(1) = 1
                """, """
                new SplicedChain(2)
                write(2, 20) = 1
                write(2, 21) = 2
                deliver(1) = 1
                fail(0) = true
                repair() = 1
                write(2, 22) = 2
                read(2) = 22
                valueAt(0, 2) = 21
                history(0) = 2
                sent(0) = 2
                """);
        held("Terms", "both links that it has are emptied and closed.", """
                new SplicedChain(4)
                write(0, 1) = 1 .. 4
                deliver(1) = 1 .. 3
                deliver(2) = 1 .. 2
                deliver(3) = 1 .. 2
                acknowledge(2) = 1 .. 2
                acknowledge(1) = 1
                waiting(0) = 100
                waiting(1) = 101
                waiting(2) = 1
                fail(1) = true
                waiting(0) = 0
                waiting(1) = 0
                waiting(2) = 0
                write(0, 9) = 5
                waiting(1) = 0
                deliver(2) = throws.NoSuchElementException
                acknowledge(0) = throws.NoSuchElementException
                history(2) = 2
                """, """
                new SplicedChain(3)
                write(0, 1) = 1 .. 2
                deliver(1) = 1
                deliver(2) = 1
                acknowledge(1) = 1
                waiting(0) = 100
                waiting(1) = 1
                fail(0) = true
                waiting(0) = 0
                waiting(1) = 0
                deliver(1) = throws.NoSuchElementException
                resync(1) = throws.IllegalStateException
                history(1) = 1
                """, """
                new SplicedChain(3)
                write(0, 1) = 1 .. 2
                deliver(1) = 1 .. 2
                deliver(2) = 1
                waiting(1) = 100
                waiting(2) = 1
                fail(2) = true
                waiting(1) = 0
                waiting(2) = 0
                acknowledge(1) = throws.NoSuchElementException
                write(0, 3) = 3
                waiting(1) = 1
                deliver(1) = 3
                waiting(2) = 0
                sent(1) = 3
                """);
        held("Terms", "It stays in the chain until a repair.", """
                new SplicedChain(3)
                fail(0) = true
                head() = 0
                write(0, 1) = throws.IllegalStateException
                fail(2) = true
                tail() = 2
                read(0) = throws.IllegalStateException
                resync(1) = throws.IllegalStateException
                repair() = 2
                head() = 1
                tail() = 1
                write(0, 5) = 1
                read(0) = 5
                """);
    }

    private static void termsOfRepairs() {
        held("Terms", "A REPAIR takes all failed nodes out of the chain.", """
                new SplicedChain(6)
                fail(0) = true
                fail(2) = true
                fail(3) = true
                fail(5) = true
                repair() = 4
                head() = 1
                tail() = 4
                resync(1) = 0
                write(2, 22) = 1
                deliver(4) = 1
                read(2) = 22
                acknowledge(1) = 1
                """, """
                new SplicedChain(6)
                fail(0) = true
                fail(1) = true
                fail(2) = true
                fail(3) = true
                fail(4) = true
                repair() = 5
                head() = 5
                tail() = 5
                """);
        held("Terms", "The links between nodes that stood beside one another before stay as they are", """
                new SplicedChain(4)
                write(0, 1) = 1 .. 4
                deliver(1) = 1 .. 3
                deliver(2) = 1 .. 2
                deliver(3) = 1
                acknowledge(2) = 1
                fail(0) = true
                repair() = 1
                head() = 1
                waiting(1) = 100
                waiting(2) = 1
                waiting(3) = 1
                resync(1) = throws.IllegalStateException
                resync(2) = throws.IllegalStateException
                deliver(2) = 3
                deliver(3) = 2 .. 3
                acknowledge(1) = 1
                """, """
                new SplicedChain(4)
                fail(1) = true
                repair() = 1
                fail(3) = true
                repair() = 1
                write(0, 1) = 1
                waiting(2) = 0
                deliver(2) = throws.NoSuchElementException
                resync(0) = 1
                deliver(2) = 1
                replied(1) = true
                """, """
                new SplicedChain(2)
                write(0, 1) = 1 .. 2
                deliver(1) = 1
                repair() = 0
                waiting(0) = 100
                waiting(1) = 1
                deliver(1) = 2
                acknowledge(0) = 1 .. 2
                """);
        held("Terms", "links between nodes that stand beside one another only now are closed and empty.", """
                new SplicedChain(3)
                write(0, 1) = 1 .. 3
                deliver(1) = 1 .. 2
                deliver(2) = 1
                fail(1) = true
                repair() = 1
                waiting(0) = 0
                waiting(2) = 0
                deliver(2) = throws.NoSuchElementException
                acknowledge(0) = throws.NoSuchElementException
                write(0, 2) = 4
                waiting(2) = 0
                resync(0) = 3
                waiting(2) = 3
                waiting(0) = 100
                """, """
                new SplicedChain(6)
                fail(1) = true
                fail(3) = true
                fail(4) = true
                repair() = 3
                write(0, 1) = 1
                waiting(2) = 0
                resync(0) = 1
                deliver(2) = 1
                waiting(5) = 0
                resync(2) = 1
                deliver(5) = 1
                acknowledge(2) = 1
                acknowledge(0) = 1
                """);
        newTail();
    }

    private static void newTail() {
        held("Terms", "If another node is the tail than before, all updates that are sent at it are acknowledged there, "
                + "in the order of their numbers.", """
                new SplicedChain(2)
                write(0, 1) = 1 .. 40
                fail(1) = true
                replied(1) = false
                sent(0) = 40
                repair() = 1
                sent(0) = 0
                replied(40) = true
                replied(41) = false
                read(0) = 1
                """, """
                new SplicedChain(3)
                write(0, 1) = 1 .. 5
                deliver(1) = 1 .. 4
                deliver(2) = 1 .. 2
                acknowledge(1) = 1
                fail(2) = true
                replied(3) = false
                repair() = 1
                tail() = 1
                sent(1) = 0
                replied(4) = true
                replied(5) = false
                waiting(0) = 400
                acknowledge(0) = 1 .. 4
                sent(0) = 1
                deliver(1) = 5
                replied(5) = true
                acknowledge(0) = 5
                """, """
                new SplicedChain(3)
                write(0, 1) = 1
                deliver(1) = 1
                deliver(2) = 1
                acknowledge(1) = 1
                acknowledge(0) = 1
                fail(2) = true
                repair() = 1
                waiting(0) = 0
                replied(1) = true
                replied(2) = false
                sent(1) = 0
                """, """
                new SplicedChain(3)
                write(0, 1) = 1 .. 2
                deliver(1) = 1 .. 2
                deliver(2) = 1
                fail(1) = true
                repair() = 1
                tail() = 2
                replied(2) = false
                sent(0) = 2
                sent(2) = 0
                """, """
                new SplicedChain(3)
                write(0, 1) = 1 .. 2
                deliver(1) = 1 .. 2
                fail(0) = true
                repair() = 1
                sent(1) = 2
                replied(1) = false
                waiting(1) = 0
                waiting(2) = 2
                """, """
                new SplicedChain(4)
                write(0, 1) = 1 .. 2
                deliver(1) = 1 .. 2
                deliver(2) = 1 .. 2
                fail(1) = true
                fail(3) = true
                repair() = 2
                tail() = 2
                replied(2) = true
                sent(2) = 0
                waiting(0) = 0
                resync(0) = 0
                waiting(0) = 200
                acknowledge(0) = 1 .. 2
                """, """
                new SplicedChain(4)
                write(0, 1) = 1 .. 3
                deliver(1) = 1 .. 2
                deliver(2) = 1
                fail(3) = true
                replied(1) = false
                repair() = 1
                replied(1) = true
                replied(2) = false
                fail(2) = true
                replied(2) = false
                repair() = 1
                replied(2) = true
                replied(3) = false
                fail(1) = true
                repair() = 1
                replied(3) = true
                sent(0) = 0
                write(5, 5) = 4
                replied(4) = true
                """);
    }

    private static void termsOfExceptions() {
        held("Terms", "An exception thrown by a call means that the call has changed nothing.", """
                new SplicedChain(4)
                write(0, 1) = 1 .. 4
                deliver(1) = 1 .. 3
                deliver(2) = 1 .. 2
                deliver(3) = 1
                write(8, 9) = throws.IllegalArgumentException
                read(8) = throws.IllegalArgumentException
                deliver(4) = throws.IllegalArgumentException
                deliver(0) = throws.NoSuchElementException
                acknowledge(4) = throws.IllegalArgumentException
                acknowledge(3) = throws.NoSuchElementException
                acknowledge(0) = throws.NoSuchElementException
                fail(4) = throws.IllegalArgumentException
                resync(4) = throws.IllegalArgumentException
                resync(0) = throws.IllegalStateException
                resync(3) = throws.IllegalStateException
                valueAt(4, 0) = throws.IllegalArgumentException
                valueAt(0, 8) = throws.IllegalArgumentException
                history(4) = throws.IllegalArgumentException
                sent(4) = throws.IllegalArgumentException
                waiting(4) = throws.IllegalArgumentException
                deliver(1) = 4
                deliver(2) = 3
                deliver(3) = 2
                acknowledge(2) = 1
                waiting(1) = 100
                waiting(2) = 101
                waiting(3) = 1
                lag() = 0.75
                fail(1) = true
                deliver(1) = throws.IllegalStateException
                acknowledge(1) = throws.IllegalStateException
                resync(0) = throws.IllegalStateException
                resync(1) = throws.IllegalStateException
                deliver(2) = throws.NoSuchElementException
                acknowledge(0) = throws.NoSuchElementException
                write(0, 2) = 5
                waiting(1) = 0
                repair() = 1
                resync(0) = 2
                deliver(2) = 4 .. 5
                waiting(0) = 100
                acknowledge(0) = 1
                lag() = 1.0
                """);
        refusedInBusyChains();
        held("Terms", "When several hold, the one that the call's comment names first is thrown.", """
                new SplicedChain(2)
                fail(0) = true
                write(8, 1) = throws.IllegalArgumentException
                write(-1, 1) = throws.IllegalArgumentException
                write(0, 1) = throws.IllegalStateException
                deliver(0) = throws.IllegalStateException
                acknowledge(0) = throws.IllegalStateException
                repair() = 1
                deliver(0) = throws.IllegalStateException
                acknowledge(0) = throws.IllegalStateException
                write(0, 1) = 1
                """, """
                new SplicedChain(1)
                write(0, 1) = 1 .. 40
                write(8, 2) = throws.IllegalArgumentException
                write(-1, 2) = throws.IllegalArgumentException
                write(0, 2) = throws.IllegalStateException
                read(0) = 1
                """, """
                new SplicedChain(2)
                fail(1) = true
                read(8) = throws.IllegalArgumentException
                read(-1) = throws.IllegalArgumentException
                read(0) = throws.IllegalStateException
                deliver(1) = throws.IllegalStateException
                acknowledge(1) = throws.IllegalStateException
                repair() = 1
                read(0) = 0
                """);
    }

    private static void refusedInBusyChains() {
        held("Terms", "An exception thrown by a call means that the call has changed nothing.", BUSY + NEVER + """
                deliver(0) = throws.NoSuchElementException
                acknowledge(4) = throws.NoSuchElementException
                resync(0) = throws.IllegalStateException
                resync(1) = throws.IllegalStateException
                resync(2) = throws.IllegalStateException
                resync(3) = throws.IllegalStateException
                resync(4) = throws.IllegalStateException
                waiting(0) = 100
                waiting(1) = 101
                waiting(2) = 101
                waiting(3) = 101
                waiting(4) = 1
                lag() = 2.0
                repair() = 0
                deliver(4) = 5
                acknowledge(0) = 1
                """, BUSY + """
                fail(2) = true
                """ + NEVER + """
                deliver(0) = throws.NoSuchElementException
                deliver(2) = throws.IllegalStateException
                deliver(3) = throws.NoSuchElementException
                acknowledge(1) = throws.NoSuchElementException
                acknowledge(2) = throws.IllegalStateException
                acknowledge(4) = throws.NoSuchElementException
                resync(0) = throws.IllegalStateException
                resync(1) = throws.IllegalStateException
                resync(2) = throws.IllegalStateException
                resync(3) = throws.IllegalStateException
                resync(4) = throws.IllegalStateException
                fail(2) = false
                waiting(0) = 100
                waiting(1) = 1
                waiting(3) = 100
                waiting(4) = 1
                write(6, 60) = 9
                waiting(1) = 2
                deliver(1) = 8 .. 9
                waiting(2) = 0
                repair() = 1
                resync(1) = 4
                waiting(3) = 104
                deliver(3) = 6 .. 9
                acknowledge(1) = 2 .. 3
                """, BUSY + """
                fail(0) = true
                write(0, 1) = throws.IllegalStateException
                deliver(0) = throws.IllegalStateException
                deliver(1) = throws.NoSuchElementException
                acknowledge(0) = throws.IllegalStateException
                resync(0) = throws.IllegalStateException
                fail(0) = false
                fail(2) = true
                """ + NEVER + """
                write(0, 1) = throws.IllegalStateException
                deliver(0) = throws.IllegalStateException
                deliver(2) = throws.IllegalStateException
                acknowledge(0) = throws.IllegalStateException
                acknowledge(1) = throws.NoSuchElementException
                resync(1) = throws.IllegalStateException
                repair() = 2
                head() = 1
                resync(1) = 2
                write(7, 70) = 8
                deliver(3) = 6 .. 8
                deliver(4) = 5 .. 8
                read(7) = 70
                read(0) = 15
                """, BUSY + """
                fail(4) = true
                read(0) = throws.IllegalStateException
                deliver(4) = throws.IllegalStateException
                acknowledge(3) = throws.NoSuchElementException
                acknowledge(4) = throws.IllegalStateException
                resync(3) = throws.IllegalStateException
                resync(4) = throws.IllegalStateException
                fail(4) = false
                """ + NEVER + """
                repair() = 1
                read(0) = 10
                replied(5) = true
                replied(6) = false
                waiting(2) = 301
                deliver(3) = 6
                replied(6) = true
                acknowledge(2) = 3 .. 6
                """, BUSY + """
                fail(2) = true
                fail(4) = true
                read(0) = throws.IllegalStateException
                deliver(4) = throws.IllegalStateException
                acknowledge(3) = throws.NoSuchElementException
                resync(1) = throws.IllegalStateException
                resync(3) = throws.IllegalStateException
                repair() = 2
                tail() = 3
                replied(5) = true
                resync(1) = 2
                waiting(1) = 401
                """, BUSY + """
                fail(1) = true
                deliver(1) = throws.IllegalStateException
                acknowledge(1) = throws.IllegalStateException
                repair() = 1
                """ + NEVER + """
                deliver(1) = throws.IllegalStateException
                deliver(2) = throws.NoSuchElementException
                acknowledge(0) = throws.NoSuchElementException
                acknowledge(1) = throws.IllegalStateException
                resync(1) = throws.IllegalStateException
                fail(1) = false
                waiting(0) = 0
                waiting(2) = 100
                resync(0) = 2
                waiting(0) = 200
                waiting(2) = 102
                """, BUSY + """
                fail(0) = true
                fail(3) = true
                fail(4) = true
                fail(1) = true
                fail(2) = false
                write(0, 1) = throws.IllegalStateException
                read(0) = throws.IllegalStateException
                """ + NEVER + """
                deliver(2) = throws.NoSuchElementException
                acknowledge(2) = throws.NoSuchElementException
                resync(2) = throws.IllegalStateException
                repair() = 4
                fail(2) = false
                sent(2) = 0
                replied(6) = true
                replied(7) = false
                write(1, 2) = 7
                read(1) = 2
                """);
    }

    private static void newObject() {
        held("Promise 1", "A chain of so many nodes", """
                new SplicedChain(1)
                tail() = 0
                history(1) = throws.IllegalArgumentException
                history(0) = 0
                """, """
                new SplicedChain(2)
                tail() = 1
                history(2) = throws.IllegalArgumentException
                history(1) = 0
                """, """
                new SplicedChain(5)
                tail() = 4
                history(5) = throws.IllegalArgumentException
                history(4) = 0
                """, """
                new SplicedChain(6)
                tail() = 5
                history(6) = throws.IllegalArgumentException
                history(5) = 0
                """);
        for (String asked : new String[] {"0", "7", "-1", "8", "-2147483648", "2147483647"}) {
            held("Promise 1", "3 when nodes is not 1 .. 6", "new SplicedChain(" + asked + ")\n" + """
                    head() = 0
                    tail() = 2
                    history(2) = 0
                    history(3) = throws.IllegalArgumentException
                    write(0, 5) = 1
                    deliver(1) = 1
                    deliver(2) = 1
                    read(0) = 5
                    acknowledge(1) = 1
                    acknowledge(0) = 1
                    """);
        }
    }

    private static void write() {
        held("Promise 2", "The head applies a new update, whose number is 1 more than its history: that number.", """
                new SplicedChain(2)
                write(0, 1) = 1
                write(7, 2) = 2
                history(0) = 2
                waiting(1) = 2
                """, """
                new SplicedChain(3)
                write(0, 10) = 1
                write(1, 11) = 2
                write(2, 12) = 3
                deliver(1) = 1
                fail(0) = true
                repair() = 1
                write(3, 13) = 2
                history(1) = 2
                deliver(2) = 1 .. 2
                read(1) = 0
                read(3) = 13
                valueAt(0, 1) = 11
                valueAt(0, 3) = 0
                """);
        held("Promise 2", "IllegalArgumentException when key is not 0 .. 7", """
                new SplicedChain(2)
                write(0, 1) = 1
                write(-1, 2) = throws.IllegalArgumentException
                write(8, 3) = throws.IllegalArgumentException
                write(-2147483648, 4) = throws.IllegalArgumentException
                write(2147483647, 5) = throws.IllegalArgumentException
                write(7, 6) = 2
                deliver(1) = 1 .. 2
                read(0) = 1
                read(7) = 6
                """);
        held("Promise 2", "IllegalStateException when the head has failed", """
                new SplicedChain(3)
                write(0, 1) = 1
                deliver(1) = 1
                fail(0) = true
                write(0, 2) = throws.IllegalStateException
                history(0) = 1
                valueAt(0, 0) = 1
                deliver(2) = 1
                repair() = 1
                write(0, 3) = 2
                deliver(2) = 2
                read(0) = 3
                """, """
                new SplicedChain(3)
                fail(1) = true
                fail(2) = true
                write(0, 2) = 1
                history(0) = 1
                """);
        held("Promise 2", "or its history is 40", """
                new SplicedChain(2)
                write(0, 1) = 1 .. 39
                write(0, 2) = 40
                write(0, 3) = throws.IllegalStateException
                write(7, 3) = throws.IllegalStateException
                waiting(1) = 40
                history(0) = 40
                deliver(1) = 1 .. 40
                acknowledge(0) = 1 .. 40
                write(0, 3) = throws.IllegalStateException
                read(0) = 2
                """, """
                new SplicedChain(3)
                write(0, 1) = 1 .. 40
                deliver(1) = 1 .. 39
                fail(0) = true
                repair() = 1
                write(2, 9) = 40
                write(2, 10) = throws.IllegalStateException
                deliver(2) = 1 .. 40
                read(2) = 9
                read(0) = 1
                """, """
                new SplicedChain(2)
                write(0, 1) = 1 .. 40
                fail(0) = true
                repair() = 1
                write(0, 7) = 1
                history(0) = 40
                history(1) = 1
                """);
    }

    private static void read() {
        held("Promise 3", "The tail's value of a key.", """
                new SplicedChain(3)
                write(0, 5) = 1
                read(0) = 0
                deliver(1) = 1
                read(0) = 0
                deliver(2) = 1
                read(0) = 5
                read(7) = 0
                write(0, 6) = 2
                deliver(1) = 2
                read(0) = 5
                fail(2) = true
                repair() = 1
                read(0) = 6
                """);
        held("Promise 3", "IllegalArgumentException when key is not 0 .. 7", """
                new SplicedChain(2)
                write(7, 5) = 1
                deliver(1) = 1
                read(-1) = throws.IllegalArgumentException
                read(8) = throws.IllegalArgumentException
                read(-2147483648) = throws.IllegalArgumentException
                read(2147483647) = throws.IllegalArgumentException
                read(7) = 5
                read(0) = 0
                """);
        held("Promise 3", "IllegalStateException when the tail has failed", """
                new SplicedChain(3)
                write(4, 9) = 1
                deliver(1) = 1
                deliver(2) = 1
                fail(2) = true
                read(4) = throws.IllegalStateException
                tail() = 2
                repair() = 1
                read(4) = 9
                """, """
                new SplicedChain(3)
                write(4, 9) = 1
                deliver(1) = 1
                deliver(2) = 1
                fail(0) = true
                fail(1) = true
                read(4) = 9
                """);
    }

    private static void deliver() {
        held("Promise 4", "The node takes the first update off the link from its predecessor and applies it: its number.",
                """
                new SplicedChain(3)
                write(0, 1) = 1
                write(0, 2) = 2
                waiting(1) = 2
                deliver(1) = 1
                waiting(1) = 1
                history(1) = 1
                valueAt(1, 0) = 1
                waiting(2) = 1
                deliver(1) = 2
                waiting(1) = 0
                valueAt(1, 0) = 2
                """);
        held("Promise 4", "IllegalArgumentException when there is no such node", """
                new SplicedChain(3)
                write(0, 1) = 1
                deliver(-1) = throws.IllegalArgumentException
                deliver(3) = throws.IllegalArgumentException
                deliver(-2147483648) = throws.IllegalArgumentException
                deliver(2147483647) = throws.IllegalArgumentException
                waiting(1) = 1
                deliver(1) = 1
                """);
        held("Promise 4", "IllegalStateException when it has failed", """
                new SplicedChain(3)
                write(0, 1) = 1
                deliver(1) = 1
                fail(1) = true
                deliver(1) = throws.IllegalStateException
                history(1) = 1
                repair() = 1
                deliver(1) = throws.IllegalStateException
                resync(0) = 1
                deliver(1) = throws.IllegalStateException
                deliver(2) = 1
                """);
        held("Promise 4", "NoSuchElementException when it is the head", """
                new SplicedChain(3)
                write(0, 1) = 1
                deliver(0) = throws.NoSuchElementException
                waiting(1) = 1
                deliver(1) = 1
                fail(0) = true
                repair() = 1
                deliver(1) = throws.NoSuchElementException
                waiting(2) = 1
                deliver(2) = 1
                """, """
                new SplicedChain(1)
                deliver(0) = throws.NoSuchElementException
                write(0, 1) = 1
                deliver(0) = throws.NoSuchElementException
                history(0) = 1
                """);
        held("Promise 4", "or no update is on that link", """
                new SplicedChain(3)
                deliver(1) = throws.NoSuchElementException
                deliver(2) = throws.NoSuchElementException
                write(0, 1) = 1
                deliver(2) = throws.NoSuchElementException
                deliver(1) = 1
                deliver(1) = throws.NoSuchElementException
                deliver(2) = 1
                waiting(1) = 100
                deliver(1) = throws.NoSuchElementException
                acknowledge(1) = 1
                """, """
                new SplicedChain(3)
                write(0, 1) = 1
                deliver(1) = 1
                fail(1) = true
                deliver(2) = throws.NoSuchElementException
                repair() = 1
                deliver(2) = throws.NoSuchElementException
                resync(0) = 1
                deliver(2) = 1
                deliver(2) = throws.NoSuchElementException
                replied(1) = true
                """);
    }

    private static void acknowledge() {
        held("Promise 5", "The node takes the first acknowledgement off the link from its successor, "
                + "and the update is acknowledged at it: its number.", """
                new SplicedChain(3)
                write(0, 1) = 1 .. 2
                deliver(1) = 1 .. 2
                deliver(2) = 1 .. 2
                waiting(1) = 200
                acknowledge(1) = 1
                waiting(1) = 100
                sent(1) = 1
                waiting(0) = 100
                acknowledge(1) = 2
                waiting(1) = 0
                sent(1) = 0
                acknowledge(0) = 1 .. 2
                sent(0) = 0
                """);
        held("Promise 5", "IllegalArgumentException when there is no such node", """
                new SplicedChain(2)
                write(0, 1) = 1
                deliver(1) = 1
                acknowledge(-1) = throws.IllegalArgumentException
                acknowledge(2) = throws.IllegalArgumentException
                acknowledge(-2147483648) = throws.IllegalArgumentException
                acknowledge(2147483647) = throws.IllegalArgumentException
                waiting(0) = 100
                acknowledge(0) = 1
                """);
        held("Promise 5", "IllegalStateException when it has failed", """
                new SplicedChain(3)
                write(0, 1) = 1
                deliver(1) = 1
                deliver(2) = 1
                fail(1) = true
                acknowledge(1) = throws.IllegalStateException
                sent(1) = 1
                repair() = 1
                acknowledge(1) = throws.IllegalStateException
                sent(1) = 1
                resync(0) = 0
                acknowledge(1) = throws.IllegalStateException
                acknowledge(0) = 1
                """);
        held("Promise 5", "NoSuchElementException when it is the tail", """
                new SplicedChain(3)
                write(0, 1) = 1 .. 2
                deliver(1) = 1 .. 2
                deliver(2) = 1
                acknowledge(2) = throws.NoSuchElementException
                waiting(1) = 100
                fail(2) = true
                repair() = 1
                acknowledge(1) = throws.NoSuchElementException
                waiting(0) = 200
                acknowledge(0) = 1 .. 2
                """, """
                new SplicedChain(1)
                acknowledge(0) = throws.NoSuchElementException
                write(0, 1) = 1
                acknowledge(0) = throws.NoSuchElementException
                sent(0) = 0
                """);
        held("Promise 5", "or no acknowledgement is on that link", """
                new SplicedChain(3)
                acknowledge(0) = throws.NoSuchElementException
                acknowledge(1) = throws.NoSuchElementException
                write(0, 1) = 1 .. 2
                acknowledge(0) = throws.NoSuchElementException
                deliver(1) = 1 .. 2
                waiting(1) = 0
                acknowledge(1) = throws.NoSuchElementException
                deliver(2) = 1
                acknowledge(0) = throws.NoSuchElementException
                acknowledge(1) = 1
                acknowledge(1) = throws.NoSuchElementException
                waiting(2) = 1
                acknowledge(0) = 1
                acknowledge(0) = throws.NoSuchElementException
                sent(0) = 1
                """, """
                new SplicedChain(3)
                write(0, 1) = 1
                deliver(1) = 1
                deliver(2) = 1
                acknowledge(1) = 1
                fail(1) = true
                acknowledge(0) = throws.NoSuchElementException
                repair() = 1
                acknowledge(0) = throws.NoSuchElementException
                resync(0) = 0
                acknowledge(0) = 1
                """);
    }

    private static void fail() {
        held("Promise 6", "The node fails: true.", """
                new SplicedChain(3)
                write(0, 1) = 1
                fail(1) = true
                deliver(1) = throws.IllegalStateException
                waiting(1) = 0
                head() = 0
                tail() = 2
                repair() = 1
                resync(0) = 1
                deliver(2) = 1
                """, """
                new SplicedChain(2)
                fail(1) = true
                read(0) = throws.IllegalStateException
                repair() = 1
                tail() = 0
                """);
        held("Promise 6", "False, changing nothing, when it has failed already", """
                new SplicedChain(4)
                write(0, 1) = 1 .. 2
                deliver(1) = 1
                fail(2) = true
                fail(2) = false
                waiting(1) = 1
                history(2) = 0
                repair() = 1
                resync(1) = 1
                waiting(3) = 1
                fail(2) = false
                waiting(1) = 1
                waiting(3) = 1
                deliver(3) = 1
                repair() = 0
                """);
        held("Promise 6", "or all others have", """
                new SplicedChain(1)
                fail(0) = false
                write(0, 1) = 1
                fail(0) = false
                read(0) = 1
                repair() = 0
                head() = 0
                """, """
                new SplicedChain(2)
                fail(0) = true
                fail(1) = false
                read(0) = 0
                repair() = 1
                fail(1) = false
                write(0, 3) = 1
                read(0) = 3
                """, """
                new SplicedChain(6)
                write(0, 4) = 1
                fail(5) = true
                fail(4) = true
                fail(3) = true
                fail(2) = true
                fail(1) = true
                fail(0) = false
                write(0, 5) = 2
                repair() = 5
                read(0) = 5
                replied(2) = true
                """, """
                new SplicedChain(4)
                fail(3) = true
                repair() = 1
                fail(1) = true
                fail(2) = true
                fail(0) = false
                write(0, 1) = 1
                repair() = 2
                fail(0) = false
                read(0) = 1
                """);
        held("Promise 6", "IllegalArgumentException when there is no such node", """
                new SplicedChain(3)
                fail(-1) = throws.IllegalArgumentException
                fail(3) = throws.IllegalArgumentException
                fail(-2147483648) = throws.IllegalArgumentException
                fail(2147483647) = throws.IllegalArgumentException
                repair() = 0
                fail(0) = true
                fail(1) = true
                fail(3) = throws.IllegalArgumentException
                fail(2) = false
                repair() = 2
                """, """
                new SplicedChain(1)
                fail(1) = throws.IllegalArgumentException
                fail(0) = false
                """);
    }

    private static void repair() {
        held("Promise 7", "A repair.", """
                new SplicedChain(3)
                write(0, 1) = 1
                deliver(1) = 1
                fail(2) = true
                repair() = 1
                tail() = 1
                replied(1) = true
                waiting(0) = 100
                acknowledge(0) = 1
                """);
        held("Promise 7", "Answers how many nodes were taken out of the chain.", """
                new SplicedChain(1)
                repair() = 0
                write(0, 1) = 1
                repair() = 0
                read(0) = 1
                """, """
                new SplicedChain(6)
                repair() = 0
                fail(3) = true
                fail(3) = false
                repair() = 1
                repair() = 0
                fail(3) = false
                repair() = 0
                fail(0) = true
                fail(5) = true
                repair() = 2
                fail(1) = true
                fail(2) = true
                fail(4) = false
                repair() = 2
                repair() = 0
                head() = 4
                tail() = 4
                """, """
                new SplicedChain(6)
                fail(1) = true
                fail(2) = true
                fail(3) = true
                fail(4) = true
                fail(5) = true
                repair() = 5
                repair() = 0
                """);
    }

    private static void resync() {
        held("Promise 8", "Opens the link between the node and its successor", """
                new SplicedChain(3)
                fail(1) = true
                repair() = 1
                write(0, 1) = 1
                waiting(2) = 0
                resync(0) = 1
                write(0, 2) = 2
                waiting(2) = 2
                deliver(2) = 1 .. 2
                waiting(0) = 200
                """);
        held("Promise 8", "and puts on it, from the node, the updates with numbers greater than the successor's history "
                + "that are sent at the node", """
                new SplicedChain(4)
                write(0, 1) = 1
                write(1, 2) = 2
                write(2, 3) = 3
                write(3, 4) = 4
                deliver(1) = 1 .. 3
                deliver(2) = 1 .. 2
                deliver(3) = 1
                acknowledge(2) = 1
                acknowledge(1) = 1
                acknowledge(0) = 1
                fail(1) = true
                repair() = 1
                sent(0) = 3
                history(2) = 2
                resync(0) = 2
                waiting(2) = 2
                deliver(2) = 3 .. 4
                valueAt(2, 2) = 3
                valueAt(2, 3) = 4
                """, """
                new SplicedChain(3)
                write(0, 1) = 1 .. 2
                deliver(1) = 1 .. 2
                deliver(2) = 1 .. 2
                fail(1) = true
                repair() = 1
                sent(0) = 2
                resync(0) = 0
                waiting(2) = 0
                deliver(2) = throws.NoSuchElementException
                waiting(0) = 200
                """, """
                new SplicedChain(3)
                write(0, 1) = 1 .. 40
                fail(1) = true
                repair() = 1
                resync(0) = 40
                waiting(2) = 40
                deliver(2) = 1 .. 40
                waiting(0) = 4000
                """);
        held("Promise 8", "and, from the successor, the acknowledgements of all numbers greater than the node's "
                + "acknowledged number up to the successor's", """
                new SplicedChain(4)
                write(0, 1) = 1 .. 4
                deliver(1) = 1 .. 4
                deliver(2) = 1 .. 4
                deliver(3) = 1 .. 4
                acknowledge(2) = 1 .. 3
                acknowledge(1) = 1
                acknowledge(0) = 1
                fail(1) = true
                repair() = 1
                waiting(0) = 0
                resync(0) = 0
                waiting(0) = 200
                acknowledge(0) = 2 .. 3
                acknowledge(0) = throws.NoSuchElementException
                acknowledge(2) = 4
                acknowledge(0) = 4
                """, """
                new SplicedChain(3)
                write(0, 1) = 1
                deliver(1) = 1
                deliver(2) = 1
                acknowledge(1) = 1
                acknowledge(0) = 1
                fail(1) = true
                repair() = 1
                resync(0) = 0
                waiting(0) = 0
                acknowledge(0) = throws.NoSuchElementException
                sent(0) = 0
                """, """
                new SplicedChain(3)
                write(0, 1) = 1 .. 40
                deliver(1) = 1 .. 40
                deliver(2) = 1 .. 40
                fail(1) = true
                repair() = 1
                resync(0) = 0
                waiting(0) = 4000
                acknowledge(0) = 1 .. 40
                """);
        held("Promise 8", "each in the order of the numbers", """
                new SplicedChain(3)
                write(0, 1) = 1
                write(0, 2) = 2
                write(0, 3) = 3
                write(0, 4) = 4
                deliver(1) = 1 .. 2
                deliver(2) = 1 .. 2
                fail(1) = true
                repair() = 1
                resync(0) = 2
                deliver(2) = 3
                read(0) = 3
                acknowledge(0) = 1 .. 3
                deliver(2) = 4
                read(0) = 4
                acknowledge(0) = 4
                """);
        held("Promise 8", "Answers how many updates were put on it.", """
                new SplicedChain(3)
                fail(1) = true
                repair() = 1
                resync(0) = 0
                waiting(2) = 0
                waiting(0) = 0
                """, """
                new SplicedChain(3)
                write(0, 1) = 1 .. 5
                deliver(1) = 1 .. 4
                deliver(2) = 1 .. 3
                fail(1) = true
                repair() = 1
                resync(0) = 2
                waiting(2) = 2
                waiting(0) = 300
                """);
        resyncRefused();
    }

    private static void resyncRefused() {
        held("Promise 8", "IllegalArgumentException when there is no such node", """
                new SplicedChain(3)
                write(0, 1) = 1
                fail(1) = true
                repair() = 1
                resync(-1) = throws.IllegalArgumentException
                resync(3) = throws.IllegalArgumentException
                resync(-2147483648) = throws.IllegalArgumentException
                resync(2147483647) = throws.IllegalArgumentException
                waiting(2) = 0
                resync(0) = 1
                """);
        held("Promise 8", "IllegalStateException when it has failed", """
                new SplicedChain(4)
                write(0, 1) = 1
                deliver(1) = 1
                fail(1) = true
                resync(1) = throws.IllegalStateException
                waiting(2) = 0
                repair() = 1
                resync(1) = throws.IllegalStateException
                waiting(2) = 0
                resync(0) = 1
                resync(1) = throws.IllegalStateException
                deliver(2) = 1
                """, """
                new SplicedChain(2)
                write(0, 1) = 1
                fail(0) = true
                resync(0) = throws.IllegalStateException
                waiting(1) = 0
                repair() = 1
                resync(0) = throws.IllegalStateException
                write(0, 2) = 1
                """);
        held("Promise 8", "it is the tail", """
                new SplicedChain(3)
                write(0, 1) = 1
                deliver(1) = 1
                resync(2) = throws.IllegalStateException
                fail(2) = true
                repair() = 1
                resync(1) = throws.IllegalStateException
                replied(1) = true
                waiting(0) = 100
                """, """
                new SplicedChain(1)
                resync(0) = throws.IllegalStateException
                write(0, 1) = 1
                resync(0) = throws.IllegalStateException
                read(0) = 1
                """);
        held("Promise 8", "its successor has failed", """
                new SplicedChain(4)
                write(0, 1) = 1
                deliver(1) = 1
                fail(2) = true
                resync(1) = throws.IllegalStateException
                waiting(2) = 0
                write(0, 2) = 2
                deliver(1) = 2
                waiting(2) = 0
                repair() = 1
                resync(1) = 2
                deliver(3) = 1 .. 2
                """, """
                new SplicedChain(2)
                write(0, 1) = 1
                fail(1) = true
                resync(0) = throws.IllegalStateException
                waiting(1) = 0
                write(0, 2) = 2
                waiting(1) = 0
                repair() = 1
                replied(2) = true
                """, """
                new SplicedChain(4)
                write(0, 1) = 1
                fail(1) = true
                repair() = 1
                fail(2) = true
                resync(0) = throws.IllegalStateException
                repair() = 1
                resync(0) = 1
                deliver(3) = 1
                """);
        held("Promise 8", "or the link is open", """
                new SplicedChain(3)
                write(0, 1) = 1
                deliver(1) = 1
                resync(0) = throws.IllegalStateException
                resync(1) = throws.IllegalStateException
                waiting(1) = 0
                waiting(2) = 1
                fail(1) = true
                repair() = 1
                resync(0) = 1
                resync(0) = throws.IllegalStateException
                waiting(2) = 1
                deliver(2) = 1
                resync(0) = throws.IllegalStateException
                waiting(0) = 100
                acknowledge(0) = 1
                """);
    }

    private static void repliedAndEnds() {
        held("Promise 9", "Whether the client has the reply for an update.", """
                new SplicedChain(2)
                replied(1) = false
                write(0, 1) = 1 .. 40
                replied(1) = false
                deliver(1) = 1
                replied(-2147483648) = false
                replied(-1) = false
                replied(0) = false
                replied(1) = true
                replied(2) = false
                deliver(1) = 2 .. 40
                replied(0) = false
                replied(1) = true
                replied(40) = true
                replied(41) = false
                replied(2147483647) = false
                """, """
                new SplicedChain(3)
                write(0, 1) = 1 .. 2
                deliver(1) = 1 .. 2
                deliver(2) = 1
                fail(2) = true
                replied(1) = true
                replied(2) = false
                fail(0) = true
                replied(2) = false
                repair() = 2
                replied(2) = true
                replied(3) = false
                """);
        held("Promise 10", "The head (it may have failed).", """
                new SplicedChain(3)
                head() = 0
                fail(0) = true
                head() = 0
                fail(1) = true
                head() = 0
                repair() = 2
                head() = 2
                """, """
                new SplicedChain(1)
                head() = 0
                fail(0) = false
                repair() = 0
                head() = 0
                """);
        held("Promise 11", "The tail (it may have failed).", """
                new SplicedChain(3)
                tail() = 2
                fail(2) = true
                tail() = 2
                fail(1) = true
                tail() = 2
                repair() = 2
                tail() = 0
                """, """
                new SplicedChain(1)
                tail() = 0
                fail(0) = false
                repair() = 0
                tail() = 0
                """);
    }

    private static void valueAt() {
        held("Promise 12", "The value of a key at a node, failed or not.", """
                new SplicedChain(3)
                write(0, 10) = 1
                write(7, 17) = 2
                deliver(1) = 1 .. 2
                deliver(2) = 1
                valueAt(0, 7) = 17
                valueAt(1, 7) = 17
                valueAt(2, 0) = 10
                valueAt(2, 7) = 0
                fail(1) = true
                valueAt(1, 0) = 10
                valueAt(1, 7) = 17
                write(7, 18) = 3
                repair() = 1
                valueAt(1, 0) = 10
                valueAt(1, 7) = 17
                valueAt(0, 7) = 18
                """);
        held("Promise 12", "IllegalArgumentException when there is no such node or key.", """
                new SplicedChain(2)
                write(7, 5) = 1
                valueAt(-1, 0) = throws.IllegalArgumentException
                valueAt(2, 0) = throws.IllegalArgumentException
                valueAt(-2147483648, 0) = throws.IllegalArgumentException
                valueAt(2147483647, 0) = throws.IllegalArgumentException
                valueAt(0, -1) = throws.IllegalArgumentException
                valueAt(0, 8) = throws.IllegalArgumentException
                valueAt(0, -2147483648) = throws.IllegalArgumentException
                valueAt(0, 2147483647) = throws.IllegalArgumentException
                valueAt(2, 8) = throws.IllegalArgumentException
                valueAt(-1, -1) = throws.IllegalArgumentException
                fail(1) = true
                valueAt(1, 8) = throws.IllegalArgumentException
                valueAt(2, 7) = throws.IllegalArgumentException
                repair() = 1
                valueAt(1, -1) = throws.IllegalArgumentException
                valueAt(0, 7) = 5
                valueAt(1, 7) = 0
                """);
    }

    private static void historyAndSent() {
        held("Promise 13", "The history of a node, failed or not.", """
                new SplicedChain(3)
                history(2) = 0
                write(0, 1) = 1 .. 40
                history(0) = 40
                deliver(1) = 1 .. 2
                deliver(2) = 1
                fail(1) = true
                history(0) = 40
                history(1) = 2
                history(2) = 1
                repair() = 1
                history(1) = 2
                resync(0) = 39
                deliver(2) = 2
                history(2) = 2
                history(1) = 2
                """);
        held("Promise 13", "IllegalArgumentException when there is no such node.", """
                new SplicedChain(2)
                write(0, 1) = 1
                history(-1) = throws.IllegalArgumentException
                history(2) = throws.IllegalArgumentException
                history(-2147483648) = throws.IllegalArgumentException
                history(2147483647) = throws.IllegalArgumentException
                history(0) = 1
                history(1) = 0
                """);
        held("Promise 14", "The number of updates that are sent at a node, failed or not.", """
                new SplicedChain(3)
                sent(0) = 0
                write(0, 1) = 1 .. 40
                sent(0) = 40
                sent(1) = 0
                deliver(1) = 1 .. 3
                sent(1) = 3
                deliver(2) = 1 .. 2
                sent(2) = 0
                acknowledge(1) = 1
                sent(1) = 2
                fail(1) = true
                sent(1) = 2
                repair() = 1
                sent(1) = 2
                resync(0) = 38
                acknowledge(0) = 1 .. 2
                sent(0) = 38
                sent(1) = 2
                """, """
                new SplicedChain(2)
                write(0, 1) = 1 .. 2
                fail(0) = true
                sent(0) = 2
                repair() = 1
                sent(0) = 2
                sent(1) = 0
                """);
        held("Promise 14", "IllegalArgumentException when there is no such node.", """
                new SplicedChain(2)
                write(0, 1) = 1
                sent(-1) = throws.IllegalArgumentException
                sent(2) = throws.IllegalArgumentException
                sent(-2147483648) = throws.IllegalArgumentException
                sent(2147483647) = throws.IllegalArgumentException
                sent(0) = 1
                sent(1) = 0
                """);
    }

    private static void waiting() {
        held("Promise 15", "The number of updates on the link from the node's predecessor to it", """
                new SplicedChain(3)
                waiting(1) = 0
                write(0, 1) = 1
                waiting(1) = 1
                waiting(2) = 0
                write(0, 1) = 2 .. 40
                waiting(1) = 40
                deliver(1) = 1 .. 39
                waiting(1) = 1
                waiting(2) = 39
                deliver(1) = 40
                waiting(1) = 0
                waiting(2) = 40
                """);
        held("Promise 15", "and 100 times the number of acknowledgements on the link from its successor to it", """
                new SplicedChain(3)
                write(0, 1) = 1 .. 40
                deliver(1) = 1 .. 20
                deliver(2) = 1 .. 20
                waiting(1) = 2020
                deliver(1) = 21 .. 40
                deliver(2) = 21 .. 40
                waiting(1) = 4000
                waiting(0) = 0
                acknowledge(1) = 1
                waiting(1) = 3900
                waiting(0) = 100
                acknowledge(1) = 2 .. 40
                waiting(1) = 0
                waiting(0) = 4000
                """);
        held("Promise 15", "(0 each when there is no such link)", """
                new SplicedChain(1)
                waiting(0) = 0
                write(0, 1) = 1
                waiting(0) = 0
                """, """
                new SplicedChain(3)
                write(0, 1) = 1 .. 3
                deliver(1) = 1 .. 2
                deliver(2) = 1
                waiting(0) = 0
                waiting(1) = 101
                waiting(2) = 1
                fail(0) = true
                waiting(0) = 0
                waiting(1) = 100
                repair() = 1
                waiting(0) = 0
                waiting(1) = 100
                waiting(2) = 1
                fail(2) = true
                repair() = 1
                waiting(0) = 0
                waiting(1) = 0
                waiting(2) = 0
                """, """
                new SplicedChain(3)
                write(0, 1) = 1 .. 3
                fail(1) = true
                repair() = 1
                resync(0) = 3
                waiting(1) = 0
                deliver(2) = 1
                waiting(1) = 0
                waiting(2) = 2
                waiting(0) = 100
                """);
        held("Promise 15", "IllegalArgumentException when there is no such node.", """
                new SplicedChain(2)
                write(0, 1) = 1
                waiting(-1) = throws.IllegalArgumentException
                waiting(2) = throws.IllegalArgumentException
                waiting(-2147483648) = throws.IllegalArgumentException
                waiting(2147483647) = throws.IllegalArgumentException
                waiting(1) = 1
                waiting(0) = 0
                """);
    }

    private static void lag() {
        held("Promise 16", "The mean, over the nodes of the chain that have not failed", """
                new SplicedChain(1)
                lag() = 0.0
                write(0, 1) = 1
                lag() = 0.0
                """, """
                new SplicedChain(6)
                lag() = 0.0
                write(0, 1) = 1
                lag() = 0.8333333333333334
                write(0, 1) = 2 .. 40
                lag() = 33.333333333333336
                fail(3) = true
                lag() = 32.0
                repair() = 1
                lag() = 32.0
                fail(5) = true
                lag() = 30.0
                repair() = 1
                lag() = 30.0
                """, """
                new SplicedChain(2)
                write(0, 1) = 1 .. 40
                lag() = 20.0
                deliver(1) = 1
                lag() = 19.5
                fail(1) = true
                lag() = 0.0
                repair() = 1
                lag() = 0.0
                """);
        held("Promise 16", "of the number of updates by which the node's history is less than that of the first node "
                + "of the chain that has not failed.", """
                new SplicedChain(4)
                write(0, 1) = 1 .. 7
                deliver(1) = 1 .. 5
                deliver(2) = 1 .. 2
                lag() = 3.5
                fail(0) = true
                lag() = 2.6666666666666665
                fail(1) = true
                lag() = 1.0
                fail(3) = true
                lag() = 0.0
                repair() = 3
                lag() = 0.0
                """, """
                new SplicedChain(3)
                write(0, 1) = 1 .. 3
                deliver(1) = 1 .. 3
                deliver(2) = 1 .. 3
                lag() = 0.0
                write(0, 1) = 4
                lag() = 0.6666666666666666
                """);
    }

    private static void readDocument() throws IOException {
        String[] parts = Files.readString(DOCUMENT).split("(?m)^## ");
        for (int i = 1; i < parts.length; i++) {
            String title = parts[i].substring(0, parts[i].indexOf('\n')).strip();
            String name = title.startsWith("Promise ") ? title.substring(0, title.indexOf(':')) : title;
            String text = parts[i].substring(parts[i].indexOf('\n'));
            // What stands between backticks is the call's face, which FaceTest holds.
            sections.put(name, text.replaceAll("(?s)`[^`]*`:?", "").replaceAll("\\s+", " ").strip());
            quoted.put(name, new BitSet());
        }
    }

    private static void checkQuotedWhole() {
        for (Map.Entry<String, String> section : sections.entrySet()) {
            String name = section.getKey();
            if (!name.equals("Terms") && !name.startsWith("Promise ")) {
                continue;
            }
            StringBuilder left = new StringBuilder();
            for (int i = 0; i < section.getValue().length(); i++) {
                left.append(quoted.get(name).get(i) ? ' ' : section.getValue().charAt(i));
            }
            if (left.chars().anyMatch(Character::isLetterOrDigit)) {
                fault(name + ": no test holds: " + left.toString().replaceAll("\\s+", " ").strip());
            }
        }
    }

    public static void main(String[] args) throws IOException {
        readDocument();
        whatItIs();
        termsOfNodes();
        termsOfUpdates();
        termsOfLinks();
        termsOfApplying();
        termsOfFailing();
        termsOfRepairs();
        termsOfExceptions();
        newObject();
        write();
        read();
        deliver();
        acknowledge();
        fail();
        repair();
        resync();
        repliedAndEnds();
        valueAt();
        historyAndSent();
        waiting();
        lag();
        checkQuotedWhole();
        System.out.println(sentences.size() + " sentences, " + runs + " runs: "
                + (wrong == 0 ? "all are as due" : wrong + " faults"));
        if (wrong != 0) {
            System.exit(1);
        }
    }
}
