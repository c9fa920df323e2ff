import java.util.ArrayDeque;
import java.util.ArrayList;
import java.util.Arrays;
import java.util.Deque;
import java.util.List;
import java.util.NoSuchElementException;
import java.util.Random;

/**
 * Runs of 512 calls, drawn with fixed seeds, against a second chain that
 * follows the document word for word: its updates carry key and value, every
 * node keeps its own log, and links stand between pairs of nodes.
 */
public final class RandomRunsTest {
    private static final int RUNS = 20000;
    private static final int CALLS = 512;
    private static final int LOOK_ONCE_IN = 60;

    private record Update(int number, int key, int value) {
    }

    private static final class PlainLink {
        final Deque<Update> updates = new ArrayDeque<>();
        final Deque<Integer> acknowledgements = new ArrayDeque<>();
        boolean open;

        PlainLink(boolean open) {
            this.open = open;
        }

        void close() {
            updates.clear();
            acknowledgements.clear();
            open = false;
        }
    }

    private static final class PlainNode {
        final int number;
        final int[] values = new int[8];
        final List<Update> applied = new ArrayList<>();
        int a = 0;
        boolean failed = false;

        PlainNode(int number) {
            this.number = number;
        }

        int h() {
            return applied.size();
        }

        List<Update> sent() {
            return applied.subList(a, applied.size());
        }
    }

    private static final class PlainChain {
        final List<PlainNode> all = new ArrayList<>();
        List<PlainNode> chain = new ArrayList<>();
        /** links.get(i) is between chain.get(i) and chain.get(i + 1). */
        List<PlainLink> links = new ArrayList<>();
        int r = 0;

        PlainChain(int nodes) {
            int count = nodes < 1 || nodes > 6 ? 3 : nodes;
            for (int i = 0; i < count; i++) {
                all.add(new PlainNode(i));
                if (i > 0) {
                    links.add(new PlainLink(true));
                }
            }
            chain.addAll(all);
        }

        PlainNode first() {
            return chain.get(0);
        }

        PlainNode last() {
            return chain.get(chain.size() - 1);
        }

        PlainLink before(PlainNode node) {
            int i = chain.indexOf(node);
            return i <= 0 ? null : links.get(i - 1);
        }

        PlainLink behind(PlainNode node) {
            int i = chain.indexOf(node);
            return i < 0 || i == chain.size() - 1 ? null : links.get(i);
        }

        void apply(PlainNode node, Update update) {
            if (update.number() != node.h() + 1) {
                throw new AssertionError("an update is applied out of order");
            }
            node.applied.add(update);
            node.values[update.key()] = update.value();
            if (node == last()) {
                ack(node, update.number());
            } else if (behind(node).open) {
                behind(node).updates.add(update);
            }
        }

        void ack(PlainNode node, int number) {
            node.a = number;
            if (node == last()) {
                r = number;
            }
            if (before(node) != null && before(node).open) {
                before(node).acknowledgements.add(number);
            }
        }

        PlainNode node(int node) {
            argument(node >= 0 && node < all.size());
            return all.get(node);
        }

        int write(int key, int value) {
            argument(key >= 0 && key <= 7);
            state(!first().failed && first().h() != 40);
            Update update = new Update(first().h() + 1, key, value);
            apply(first(), update);
            return update.number();
        }

        int read(int key) {
            argument(key >= 0 && key <= 7);
            state(!last().failed);
            return last().values[key];
        }

        int deliver(int number) {
            PlainNode node = node(number);
            state(!node.failed);
            element(node != first() && !before(node).updates.isEmpty());
            Update update = before(node).updates.remove();
            apply(node, update);
            return update.number();
        }

        int acknowledge(int number) {
            PlainNode node = node(number);
            state(!node.failed);
            element(node != last() && !behind(node).acknowledgements.isEmpty());
            int taken = behind(node).acknowledgements.remove();
            ack(node, taken);
            return taken;
        }

        boolean fail(int number) {
            PlainNode node = node(number);
            boolean others = false;
            for (PlainNode other : all) {
                others |= other != node && !other.failed;
            }
            if (node.failed || !others) {
                return false;
            }
            node.failed = true;
            if (before(node) != null) {
                before(node).close();
            }
            if (behind(node) != null) {
                behind(node).close();
            }
            return true;
        }

        int repair() {
            PlainNode tailBefore = last();
            List<PlainNode> kept = new ArrayList<>();
            List<PlainLink> keptLinks = new ArrayList<>();
            for (int i = 0; i < chain.size(); i++) {
                PlainNode node = chain.get(i);
                if (node.failed) {
                    continue;
                }
                if (!kept.isEmpty()) {
                    boolean beside = kept.get(kept.size() - 1) == chain.get(i - 1);
                    keptLinks.add(beside ? links.get(i - 1) : new PlainLink(false));
                }
                kept.add(node);
            }
            int out = chain.size() - kept.size();
            chain = kept;
            links = keptLinks;
            if (last() != tailBefore) {
                for (Update update : new ArrayList<>(last().sent())) {
                    ack(last(), update.number());
                }
            }
            return out;
        }

        int resync(int number) {
            PlainNode node = node(number);
            state(!node.failed && node != last());
            PlainNode successor = chain.get(chain.indexOf(node) + 1);
            PlainLink link = behind(node);
            state(!successor.failed && !link.open);
            link.open = true;
            int put = 0;
            for (Update update : node.sent()) {
                if (update.number() > successor.h()) {
                    link.updates.add(update);
                    put++;
                }
            }
            for (int n = node.a + 1; n <= successor.a; n++) {
                link.acknowledgements.add(n);
            }
            return put;
        }

        int waiting(int number) {
            PlainNode node = node(number);
            int updates = before(node) == null ? 0 : before(node).updates.size();
            int back = behind(node) == null ? 0 : behind(node).acknowledgements.size();
            return updates + 100 * back;
        }

        double lag() {
            List<PlainNode> standing = new ArrayList<>();
            for (PlainNode node : chain) {
                if (!node.failed) {
                    standing.add(node);
                }
            }
            double sum = 0;
            for (PlainNode node : standing) {
                sum += Math.max(0, standing.get(0).h() - node.h());
            }
            return sum / standing.size();
        }
    }

    private static void argument(boolean good) {
        if (!good) {
            throw new IllegalArgumentException();
        }
    }

    private static void state(boolean good) {
        if (!good) {
            throw new IllegalStateException();
        }
    }

    private static void element(boolean good) {
        if (!good) {
            throw new NoSuchElementException();
        }
    }

    private static final class Rows {
        static final String[] CALLS = {
            "write", "read", "deliver", "acknowledge", "fail", "repair", "resync", "replied",
            "head", "tail", "valueAt", "history", "sent", "waiting", "lag"
        };
        // Three mixtures: calm, with many failures, and mostly writes.
        static final int[][] WEIGHTS = {
            {20, 4, 40, 30, 1, 1, 3, 2, 1, 1, 2, 1, 1, 3, 2},
            {12, 4, 20, 15, 5, 4, 9, 2, 1, 1, 2, 1, 2, 4, 2},
            {60, 4, 25, 15, 1, 2, 4, 2, 1, 1, 2, 1, 1, 3, 2}
        };
    }

    private static String draw(Random random, int[] weights) {
        int sum = Arrays.stream(weights).sum();
        int at = random.nextInt(sum);
        int i = 0;
        while (at >= weights[i]) {
            at -= weights[i];
            i++;
        }
        return Rows.CALLS[i];
    }

    private static Object answerOf(SplicedChain x, String call, int p, int q) {
        try {
            return switch (call) {
                case "write" -> x.write(p, q);
                case "read" -> x.read(p);
                case "deliver" -> x.deliver(p);
                case "acknowledge" -> x.acknowledge(p);
                case "fail" -> x.fail(p);
                case "repair" -> x.repair();
                case "resync" -> x.resync(p);
                case "replied" -> x.replied(p);
                case "head" -> x.head();
                case "tail" -> x.tail();
                case "valueAt" -> x.valueAt(p, q);
                case "history" -> x.history(p);
                case "sent" -> x.sent(p);
                case "waiting" -> x.waiting(p);
                default -> (Object) x.lag();
            };
        } catch (RuntimeException e) {
            return "throws." + e.getClass().getSimpleName();
        }
    }

    private static Object dueOf(PlainChain m, String call, int p, int q) {
        try {
            return switch (call) {
                case "write" -> m.write(p, q);
                case "read" -> m.read(p);
                case "deliver" -> m.deliver(p);
                case "acknowledge" -> m.acknowledge(p);
                case "fail" -> m.fail(p);
                case "repair" -> m.repair();
                case "resync" -> m.resync(p);
                case "replied" -> p >= 1 && p <= m.r;
                case "head" -> m.first().number;
                case "tail" -> m.last().number;
                case "valueAt" -> {
                    PlainNode node = m.node(p);
                    argument(q >= 0 && q <= 7);
                    yield node.values[q];
                }
                case "history" -> m.node(p).h();
                case "sent" -> m.node(p).sent().size();
                case "waiting" -> m.waiting(p);
                default -> (Object) m.lag();
            };
        } catch (IllegalArgumentException | IllegalStateException | NoSuchElementException e) {
            return "throws." + e.getClass().getSimpleName();
        }
    }

    private static int firstArgument(Random random, String call, int nodes) {
        boolean wild = random.nextInt(40) == 0;
        if (call.equals("write") || call.equals("read")) {
            return wild ? random.nextInt(13) - 3 : random.nextInt(8);
        }
        if (call.equals("replied")) {
            return random.nextInt(44) - 2;
        }
        return wild ? random.nextInt(12) - 3 : random.nextInt(nodes);
    }

    private static int secondArgument(Random random, String call) {
        if (call.equals("valueAt")) {
            return random.nextInt(20) == 0 ? random.nextInt(13) - 3 : random.nextInt(8);
        }
        return random.nextInt();
    }

    /** All that the object shows, so that a wrong change is seen though no drawn call asks for it. */
    private static String firstDifference(SplicedChain x, PlainChain m, int nodes) {
        for (int node = 0; node < nodes; node++) {
            for (String call : new String[] {"history", "sent", "waiting"}) {
                if (!dueOf(m, call, node, 0).equals(answerOf(x, call, node, 0))) {
                    return call + "(" + node + ")";
                }
            }
            for (int key = 0; key < 8; key++) {
                if (x.valueAt(node, key) != m.all.get(node).values[key]) {
                    return "valueAt(" + node + ", " + key + ")";
                }
            }
        }
        if (x.replied(m.r + 1) || x.replied(m.r) != (m.r > 0)) {
            return "replied round " + m.r;
        }
        if (x.head() != m.first().number || x.tail() != m.last().number || x.lag() != m.lag()) {
            return "head, tail or lag";
        }
        return null;
    }

    private static boolean runIsRight(int run) {
        Random random = new Random(run);
        int asked = random.nextInt(10) - 1;
        SplicedChain x = new SplicedChain(asked);
        PlainChain m = new PlainChain(asked);
        int nodes = m.all.size();
        int callsOfLook = 11 * nodes + 5;
        int[] weights = Rows.WEIGHTS[run % Rows.WEIGHTS.length];
        StringBuilder told = new StringBuilder("new SplicedChain(" + asked + ")\n");
        int left = CALLS;
        while (left > callsOfLook) {
            String call = draw(random, weights);
            int p = firstArgument(random, call, nodes);
            int q = secondArgument(random, call);
            Object want = dueOf(m, call, p, q);
            Object got = answerOf(x, call, p, q);
            left--;
            told.append(call + "(" + p + ", " + q + ") -> " + got + "\n");
            String difference = null;
            // The last calls of every run are a look; before that it comes by chance.
            if (left == callsOfLook || left > 2 * callsOfLook && random.nextInt(LOOK_ONCE_IN) == 0) {
                difference = firstDifference(x, m, nodes);
                left -= callsOfLook;
                told.append("a look at all\n");
            }
            if (!want.equals(got) || difference != null) {
                System.out.print(told);
                System.out.println("run " + run + ": due is " + want + "; shows otherwise: " + difference);
                return false;
            }
        }
        return true;
    }

    public static void main(String[] args) {
        for (int run = 0; run < RUNS; run++) {
            if (!runIsRight(run)) {
                System.exit(1);
            }
        }
        System.out.println(RUNS + " runs are as due");
    }
}
