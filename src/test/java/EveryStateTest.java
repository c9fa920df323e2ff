import java.util.ArrayList;
import java.util.Collections;
import java.util.HashSet;
import java.util.List;
import java.util.Set;

/**
 * In every state that a small chain can reach, every call, with good and with
 * wrong arguments. What is due is worked out by a third chain, whose states
 * never change: a call makes a new state of an old one. Its nodes keep only
 * the log of what they applied; histories and values are read from the log.
 *
 * Each call that changes something is made on a new object that was led to the
 * state, by one of the shortest rows of calls; before it come all calls that
 * must change nothing there, and behind it a look at all that the object shows.
 */
public final class EveryStateTest {
    private static final int MOST_CALLS = 512;
    private static final String ARGUMENT = "throws.IllegalArgumentException";
    private static final String STATE = "throws.IllegalStateException";
    private static final String ELEMENT = "throws.NoSuchElementException";

    /** How many nodes, and up to which number the heads write. */
    private static final int[][] SIZES = {{1, 40}, {2, 8}, {3, 4}, {4, 2}, {5, 1}, {6, 1}};

    private record Update(int number, int key, int value) {
    }

    /** The link from a node of the chain to the one behind it. */
    private record Link(boolean open, List<Update> updates, List<Integer> acknowledgements) {
        static final Link NEW = new Link(true, List.of(), List.of());
        static final Link CLOSED = new Link(false, List.of(), List.of());

        Link with(Update update) {
            return open ? new Link(true, longer(updates, update), acknowledgements) : this;
        }

        Link with(int acknowledgement) {
            return open ? new Link(true, updates, longer(acknowledgements, acknowledgement)) : this;
        }

        Link withoutFirstUpdate() {
            return new Link(open, updates.subList(1, updates.size()), acknowledgements);
        }

        Link withoutFirstAcknowledgement() {
            return new Link(open, updates, acknowledgements.subList(1, acknowledgements.size()));
        }
    }

    private record Node(List<Update> log, int a, boolean failed) {
        int h() {
            return log.size();
        }

        int value(int key) {
            int value = 0;
            for (Update update : log) {
                value = update.key() == key ? update.value() : value;
            }
            return value;
        }

        Node having(Update update) {
            if (update.number() != h() + 1) {
                throw new AssertionError("an update is applied out of order");
            }
            return new Node(longer(log, update), a, failed);
        }

        Node acknowledged(int number) {
            if (number != a + 1 || number > h()) {
                throw new AssertionError("an update is acknowledged out of order");
            }
            return new Node(log, number, failed);
        }
    }

    /** Node chain.get(i) has the link links.get(i) to chain.get(i + 1). */
    private record State(List<Node> nodes, List<Integer> chain, List<Link> links, int r) {
        static State first(int count) {
            State state = new State(List.of(), List.of(), List.of(), 0);
            for (int i = 0; i < count; i++) {
                state = new State(longer(state.nodes, new Node(List.of(), 0, false)), longer(state.chain, i),
                        i == 0 ? state.links : longer(state.links, Link.NEW), 0);
            }
            return state;
        }

        int place(int node) {
            return chain.indexOf(node);
        }

        int last() {
            return chain.size() - 1;
        }

        Node at(int place) {
            return nodes.get(chain.get(place));
        }

        State with(int place, Node node) {
            return new State(changed(nodes, chain.get(place), node), chain, links, r);
        }

        State with(int place, Link link) {
            return place < 0 || place >= last() ? this
                    : new State(nodes, chain, changed(links, place, link), r);
        }

        State applied(int place, Update update) {
            State state = with(place, at(place).having(update));
            return place == last() ? state.acknowledged(place, update.number())
                    : state.with(place, links.get(place).with(update));
        }

        State acknowledged(int place, int number) {
            State state = with(place, at(place).acknowledged(number));
            if (place == last()) {
                state = new State(state.nodes, chain, state.links, number);
            }
            return place == 0 ? state : state.with(place - 1, state.links.get(place - 1).with(number));
        }

        State failed(int place) {
            Node node = at(place);
            return with(place, new Node(node.log, node.a, true))
                    .with(place, Link.CLOSED).with(place - 1, Link.CLOSED);
        }

        State repaired() {
            List<Integer> left = new ArrayList<>();
            List<Link> between = new ArrayList<>();
            for (int place = 0; place <= last(); place++) {
                if (!at(place).failed) {
                    if (!left.isEmpty()) {
                        boolean stoodBeside = place(left.get(left.size() - 1)) == place - 1;
                        between.add(stoodBeside ? links.get(place - 1) : Link.CLOSED);
                    }
                    left.add(chain.get(place));
                }
            }
            State state = new State(nodes, List.copyOf(left), List.copyOf(between), r);
            int tail = state.last();
            if (!state.chain.get(tail).equals(chain.get(last()))) {
                while (state.at(tail).a < state.at(tail).h()) {
                    state = state.acknowledged(tail, state.at(tail).a + 1);
                }
            }
            return state;
        }

        State resynced(int place) {
            Node node = at(place);
            Node successor = at(place + 1);
            Link link = Link.NEW;
            for (Update update : node.log) {
                boolean sent = update.number() > node.a;
                link = sent && update.number() > successor.h() ? link.with(update) : link;
            }
            for (int number = node.a + 1; number <= successor.a; number++) {
                link = link.with(number);
            }
            return with(place, link);
        }

        double lag() {
            double sum = 0;
            int counted = 0;
            int most = -1;
            for (int node : chain) {
                if (!nodes.get(node).failed) {
                    most = most < 0 ? nodes.get(node).h() : most;
                    sum += most - nodes.get(node).h();
                    counted++;
                }
            }
            return sum / counted;
        }

        int waiting(int node) {
            int place = place(node);
            int updates = place > 0 ? links.get(place - 1).updates.size() : 0;
            int back = place >= 0 && place < last() ? links.get(place).acknowledgements.size() : 0;
            return updates + 100 * back;
        }
    }

    private static <T> List<T> longer(List<T> list, T last) {
        List<T> result = new ArrayList<>(list);
        result.add(last);
        return List.copyOf(result);
    }

    private static <T> List<T> changed(List<T> list, int index, T element) {
        List<T> result = new ArrayList<>(list);
        result.set(index, element);
        return List.copyOf(result);
    }

    private record Call(String name, int first, int second) {
        String told() {
            return switch (name) {
                case "write", "valueAt" -> name + "(" + first + ", " + second + ")";
                case "repair", "head", "tail", "lag" -> name + "()";
                default -> name + "(" + first + ")";
            };
        }

        String answerOf(SplicedChain x) {
            try {
                return switch (name) {
                    case "write" -> "" + x.write(first, second);
                    case "read" -> "" + x.read(first);
                    case "deliver" -> "" + x.deliver(first);
                    case "acknowledge" -> "" + x.acknowledge(first);
                    case "fail" -> "" + x.fail(first);
                    case "repair" -> "" + x.repair();
                    case "resync" -> "" + x.resync(first);
                    case "replied" -> "" + x.replied(first);
                    case "head" -> "" + x.head();
                    case "tail" -> "" + x.tail();
                    case "valueAt" -> "" + x.valueAt(first, second);
                    case "history" -> "" + x.history(first);
                    case "sent" -> "" + x.sent(first);
                    case "waiting" -> "" + x.waiting(first);
                    default -> "" + x.lag();
                };
            } catch (RuntimeException e) {
                return "throws." + e.getClass().getSimpleName();
            }
        }
    }

    /** What a call answers in a state, and the state behind it. */
    private record Due(String answer, State after) {
    }

    private static boolean isKey(int key) {
        return 0 <= key && key <= 7;
    }

    private static Due due(State s, Call call) {
        return switch (call.name()) {
            case "write" -> dueOfWrite(s, call.first(), call.second());
            case "deliver" -> dueOfDeliver(s, call.first());
            case "acknowledge" -> dueOfAcknowledge(s, call.first());
            case "fail" -> dueOfFail(s, call.first());
            case "repair" -> new Due("" + (s.chain().size() - s.repaired().chain().size()), s.repaired());
            case "resync" -> dueOfResync(s, call.first());
            default -> new Due(dueOfLook(s, call), s);
        };
    }

    private static Due dueOfWrite(State s, int key, int value) {
        if (!isKey(key)) {
            return new Due(ARGUMENT, s);
        }
        if (s.at(0).failed() || s.at(0).h() == 40) {
            return new Due(STATE, s);
        }
        int number = s.at(0).h() + 1;
        return new Due("" + number, s.applied(0, new Update(number, key, value)));
    }

    /** The exception for a node that is not there or has failed, or null. */
    private static String noStandingNode(State s, int node) {
        if (node < 0 || node >= s.nodes().size()) {
            return ARGUMENT;
        }
        return s.nodes().get(node).failed() ? STATE : null;
    }

    private static Due dueOfDeliver(State s, int node) {
        if (noStandingNode(s, node) != null) {
            return new Due(noStandingNode(s, node), s);
        }
        int place = s.place(node);
        if (place == 0 || s.links().get(place - 1).updates().isEmpty()) {
            return new Due(ELEMENT, s);
        }
        Link link = s.links().get(place - 1);
        Update update = link.updates().get(0);
        return new Due("" + update.number(),
                s.with(place - 1, link.withoutFirstUpdate()).applied(place, update));
    }

    private static Due dueOfAcknowledge(State s, int node) {
        if (noStandingNode(s, node) != null) {
            return new Due(noStandingNode(s, node), s);
        }
        int place = s.place(node);
        if (place == s.last() || s.links().get(place).acknowledgements().isEmpty()) {
            return new Due(ELEMENT, s);
        }
        Link link = s.links().get(place);
        int number = link.acknowledgements().get(0);
        return new Due("" + number,
                s.with(place, link.withoutFirstAcknowledgement()).acknowledged(place, number));
    }

    private static Due dueOfFail(State s, int node) {
        if (ARGUMENT.equals(noStandingNode(s, node))) {
            return new Due(ARGUMENT, s);
        }
        boolean allOthersHave = true;
        for (int other = 0; other < s.nodes().size(); other++) {
            allOthersHave &= other == node || s.nodes().get(other).failed();
        }
        if (s.nodes().get(node).failed() || allOthersHave) {
            return new Due("false", s);
        }
        return new Due("true", s.failed(s.place(node)));
    }

    private static Due dueOfResync(State s, int node) {
        if (noStandingNode(s, node) != null) {
            return new Due(noStandingNode(s, node), s);
        }
        int place = s.place(node);
        if (place == s.last() || s.at(place + 1).failed() || s.links().get(place).open()) {
            return new Due(STATE, s);
        }
        State after = s.resynced(place);
        return new Due("" + after.links().get(place).updates().size(), after);
    }

    private static String dueOfLook(State s, Call call) {
        int first = call.first();
        boolean isNode = 0 <= first && first < s.nodes().size();
        switch (call.name()) {
            case "read":
                return !isKey(first) ? ARGUMENT
                        : s.at(s.last()).failed() ? STATE : "" + s.at(s.last()).value(first);
            case "replied":
                return "" + (1 <= first && first <= s.r());
            case "head":
                return "" + s.chain().get(0);
            case "tail":
                return "" + s.chain().get(s.last());
            case "valueAt":
                return !isNode || !isKey(call.second()) ? ARGUMENT
                        : "" + s.nodes().get(first).value(call.second());
            case "history":
                return !isNode ? ARGUMENT : "" + s.nodes().get(first).h();
            case "sent":
                return !isNode ? ARGUMENT : "" + (s.nodes().get(first).h() - s.nodes().get(first).a());
            case "waiting":
                return !isNode ? ARGUMENT : "" + s.waiting(first);
            default:
                return "" + s.lag();
        }
    }

    /** A state with the row that leads to it: that of the state before, and one call more. */
    private record Reached(State state, Reached before, Row row) {
        List<Row> rows() {
            List<Row> rows = new ArrayList<>();
            for (Reached at = this; at.before != null; at = at.before) {
                rows.add(at.row);
            }
            Collections.reverse(rows);
            return rows;
        }
    }

    /** A call with the answer that is due. */
    private record Row(Call call, String due) {
    }

    private final int nodes;
    private final int mostWritten;
    private final List<Call> looks;
    private final Set<State> seen = new HashSet<>();
    private final List<Reached> toGo = new ArrayList<>();

    private EveryStateTest(int nodes, int mostWritten) {
        this.nodes = nodes;
        this.mostWritten = mostWritten;
        looks = allLooks();
    }

    private void add(Reached one) {
        if (seen.add(one.state())) {
            toGo.add(one);
        }
    }

    private int goThroughAll() {
        add(new Reached(State.first(nodes), null, null));
        for (int i = 0; i < toGo.size(); i++) {
            goThrough(toGo.get(i));
        }
        return toGo.size();
    }

    private void goThrough(Reached from) {
        State s = from.state();
        List<Call> changing = new ArrayList<>();
        List<Row> rows = from.rows();
        for (Call call : tries(s)) {
            Due due = due(s, call);
            if (due.after().equals(s)) {
                rows.add(new Row(call, due.answer()));
            } else if (!call.name().equals("write") || s.at(0).h() < mostWritten) {
                changing.add(call);
            }
        }
        // Where nothing goes on, a call that changes nothing stands for the one that would.
        if (changing.isEmpty()) {
            changing.add(new Call("lag", 0, 0));
        }
        for (Call call : changing) {
            Due due = due(s, call);
            Row row = new Row(call, due.answer());
            List<Row> run = new ArrayList<>(rows);
            run.add(row);
            for (Call look : looks) {
                run.add(new Row(look, dueOfLook(due.after(), look)));
            }
            make(run);
            add(new Reached(due.after(), from, row));
        }
    }

    private void make(List<Row> run) {
        if (run.size() > MOST_CALLS) {
            throw new AssertionError("more than " + MOST_CALLS + " calls on one object");
        }
        SplicedChain x = new SplicedChain(nodes);
        for (int i = 0; i < run.size(); i++) {
            String got = run.get(i).call().answerOf(x);
            if (!got.equals(run.get(i).due())) {
                tell(run.subList(0, i), run.get(i), got);
                System.exit(1);
            }
        }
    }

    private void tell(List<Row> before, Row wrong, String got) {
        System.out.println("new SplicedChain(" + nodes + ")");
        for (Row row : before) {
            System.out.println(row.call().told() + " = " + row.due());
        }
        System.out.println(wrong.call().told() + " = " + got + ", due is " + wrong.due());
    }

    /** What each head writes under a number is its own, so that a number given again is seen. */
    private static Call writeOf(State s) {
        int number = s.at(0).h() + 1;
        int head = s.chain().get(0);
        return new Call("write", (number + 3 * head) % 8, 10 * number + head);
    }

    private List<Call> tries(State s) {
        List<Call> calls = new ArrayList<>();
        calls.add(writeOf(s));
        calls.add(new Call("repair", 0, 0));
        for (int node = 0; node < nodes; node++) {
            for (String name : List.of("deliver", "acknowledge", "fail", "resync")) {
                calls.add(new Call(name, node, 0));
            }
        }
        for (int noNode : new int[] {-1, nodes}) {
            for (String name : List.of("deliver", "acknowledge", "fail", "resync",
                    "history", "sent", "waiting", "valueAt")) {
                calls.add(new Call(name, noNode, 0));
            }
        }
        for (int noKey : new int[] {-1, 8}) {
            calls.add(new Call("write", noKey, 5));
            calls.add(new Call("read", noKey, 0));
            calls.add(new Call("valueAt", 0, noKey));
        }
        return calls;
    }

    private List<Call> allLooks() {
        List<Call> calls = new ArrayList<>();
        for (String name : List.of("head", "tail", "lag")) {
            calls.add(new Call(name, 0, 0));
        }
        for (int node = 0; node < nodes; node++) {
            for (String name : List.of("history", "sent", "waiting")) {
                calls.add(new Call(name, node, 0));
            }
            for (int key = 0; key < 8; key++) {
                calls.add(new Call("valueAt", node, key));
            }
        }
        for (int number = -1; number <= mostWritten + 1; number++) {
            calls.add(new Call("replied", number, 0));
        }
        for (int key = 0; key < 8; key++) {
            calls.add(new Call("read", key, 0));
        }
        return calls;
    }

    private static void tryAll(int nodes, int mostWritten) {
        int states = new EveryStateTest(nodes, mostWritten).goThroughAll();
        System.out.println("nodes " + nodes + ", numbers up to " + mostWritten + ": "
                + states + " states are as due");
    }

    /** With two numbers, nodes and the greatest number written, that size alone. */
    public static void main(String[] args) {
        if (args.length == 2) {
            tryAll(Integer.parseInt(args[0]), Integer.parseInt(args[1]));
            return;
        }
        for (int[] size : SIZES) {
            tryAll(size[0], size[1]);
        }
    }
}
