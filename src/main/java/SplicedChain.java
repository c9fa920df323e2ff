import java.util.NoSuchElementException;

/** A store of values that is kept by a chain of nodes, which may fail and be spliced together again. */
public final class SplicedChain {
    private static final int MOST_NODES = 6;
    private static final int USUAL_NODES = 3;
    private static final int KEYS = 8;
    private static final int MOST_UPDATES = 40;
    private static final int WEIGHT_OF_ACKNOWLEDGEMENTS = 100;
    private static final int NOWHERE = -1;

    /** Numbers of updates, which leave in the order in which they came. */
    private static final class Queue {
        private final int[] numbers = new int[MOST_UPDATES];
        private int first = 0;
        private int size = 0;

        // A number stands on a link once at most, so there is always room for it.
        void put(int number) {
            if (size < MOST_UPDATES) {
                numbers[(first + size) % MOST_UPDATES] = number;
                size++;
            }
        }

        // Callers look at the size first.
        int take() {
            int number = numbers[first];
            first = (first + 1) % MOST_UPDATES;
            size--;
            return number;
        }

        void clear() {
            size = 0;
        }
    }

    /** What goes between a node and its successor. */
    private static final class Link {
        private final Queue updates = new Queue();
        private final Queue acknowledgements = new Queue();
        private boolean open = true;

        void putUpdate(int number) {
            if (open) {
                updates.put(number);
            }
        }

        void putAcknowledgement(int number) {
            if (open) {
                acknowledgements.put(number);
            }
        }

        void close() {
            open = false;
            updates.clear();
            acknowledgements.clear();
        }
    }

    /** A node, with the link to whichever node is its successor. */
    private static final class Node {
        private final int[] values = new int[KEYS];
        private final Link link = new Link();
        private int history = 0;
        private int acknowledged = 0;
        private boolean failed = false;
    }

    private final Node[] nodes;

    // The numbers of the nodes in the chain, from the head to the tail.
    private final int[] chain;
    private int chainLength;

    // One row serves all nodes: what stands in the chain behind its head has
    // applied, or is on its way to apply, only what the head has applied. So a
    // number that a new head gives a second time is in use nowhere in the chain.
    private final int[] keyOfUpdate = new int[MOST_UPDATES + 1];
    private final int[] valueOfUpdate = new int[MOST_UPDATES + 1];

    private int replies = 0;

    public SplicedChain(int nodes) {
        int count = nodes >= 1 && nodes <= MOST_NODES ? nodes : USUAL_NODES;
        this.nodes = new Node[count];
        chain = new int[count];
        chainLength = count;
        for (int i = 0; i < count; i++) {
            this.nodes[i] = new Node();
            chain[i] = i;
        }
    }

    public int write(int key, int value) throws IllegalArgumentException, IllegalStateException {
        if (!isKey(key)) {
            throw new IllegalArgumentException("no such key");
        }
        Node head = nodeAt(0);
        if (head.failed || head.history >= MOST_UPDATES) {
            throw new IllegalStateException("the head has failed or its history is full");
        }
        int number = head.history + 1;
        keyOfUpdate[number] = key;
        valueOfUpdate[number] = value;
        applyAt(0, number);
        return number;
    }

    public int read(int key) throws IllegalArgumentException, IllegalStateException {
        if (!isKey(key)) {
            throw new IllegalArgumentException("no such key");
        }
        Node tail = nodeAt(chainLength - 1);
        if (tail.failed) {
            throw new IllegalStateException("the tail has failed");
        }
        return tail.values[key];
    }

    public int deliver(int node)
            throws IllegalArgumentException, IllegalStateException, NoSuchElementException {
        if (!isNode(node)) {
            throw new IllegalArgumentException("no such node");
        }
        if (nodes[node].failed) {
            throw new IllegalStateException("the node has failed");
        }
        int position = positionOf(node);
        if (updatesTowards(position) == 0) {
            throw new NoSuchElementException("no update is on the link from the predecessor");
        }
        int number = nodeAt(position - 1).link.updates.take();
        applyAt(position, number);
        return number;
    }

    public int acknowledge(int node)
            throws IllegalArgumentException, IllegalStateException, NoSuchElementException {
        if (!isNode(node)) {
            throw new IllegalArgumentException("no such node");
        }
        if (nodes[node].failed) {
            throw new IllegalStateException("the node has failed");
        }
        int position = positionOf(node);
        if (acknowledgementsTowards(position) == 0) {
            throw new NoSuchElementException("no acknowledgement is on the link from the successor");
        }
        int number = nodeAt(position).link.acknowledgements.take();
        acknowledgeAt(position, number);
        return number;
    }

    public boolean fail(int node) throws IllegalArgumentException {
        if (!isNode(node)) {
            throw new IllegalArgumentException("no such node");
        }
        if (nodes[node].failed || countStanding() <= 1) {
            return false;
        }
        nodes[node].failed = true;
        closeLinksAt(positionOf(node));
        return true;
    }

    public int repair() {
        int lengthBefore = chainLength;
        int tailBefore = tail();
        takeOutFailed();
        if (tail() != tailBefore) {
            acknowledgeAllSentAtTail();
        }
        return lengthBefore - chainLength;
    }

    public int resync(int node) throws IllegalArgumentException, IllegalStateException {
        if (!isNode(node)) {
            throw new IllegalArgumentException("no such node");
        }
        int position = positionOf(node);
        if (!canResyncAt(position)) {
            throw new IllegalStateException("there is no closed link between two nodes that stand");
        }
        Node sender = nodeAt(position);
        Node successor = nodeAt(position + 1);
        sender.link.open = true;
        int known = Math.max(successor.history, sender.acknowledged);
        for (int number = known + 1; number <= sender.history; number++) {
            sender.link.putUpdate(number);
        }
        for (int number = sender.acknowledged + 1; number <= successor.acknowledged; number++) {
            sender.link.putAcknowledgement(number);
        }
        // The link was closed, and so empty, before.
        return sender.link.updates.size;
    }

    public boolean replied(int number) {
        return number >= 1 && number <= replies;
    }

    public int head() {
        return chain[0];
    }

    public int tail() {
        return chain[chainLength - 1];
    }

    public int valueAt(int node, int key) throws IllegalArgumentException {
        if (!isNode(node) || !isKey(key)) {
            throw new IllegalArgumentException("no such node or key");
        }
        return nodes[node].values[key];
    }

    public int history(int node) throws IllegalArgumentException {
        if (!isNode(node)) {
            throw new IllegalArgumentException("no such node");
        }
        return nodes[node].history;
    }

    public int sent(int node) throws IllegalArgumentException {
        if (!isNode(node)) {
            throw new IllegalArgumentException("no such node");
        }
        return nodes[node].history - nodes[node].acknowledged;
    }

    public int waiting(int node) throws IllegalArgumentException {
        if (!isNode(node)) {
            throw new IllegalArgumentException("no such node");
        }
        int position = positionOf(node);
        return updatesTowards(position)
                + WEIGHT_OF_ACKNOWLEDGEMENTS * acknowledgementsTowards(position);
    }

    public double lag() {
        int standing = 0;
        int foremost = 0;
        int behind = 0;
        for (int position = 0; position < chainLength; position++) {
            Node node = nodeAt(position);
            if (!node.failed) {
                if (standing == 0) {
                    foremost = node.history;
                }
                standing++;
                behind += foremost - node.history;
            }
        }
        return standing == 0 ? 0.0 : (double) behind / standing;
    }

    private boolean isNode(int node) {
        return node >= 0 && node < nodes.length;
    }

    private static boolean isKey(int key) {
        return key >= 0 && key < KEYS;
    }

    private Node nodeAt(int position) {
        return nodes[chain[position]];
    }

    private boolean isTailAt(int position) {
        return position == chainLength - 1;
    }

    private int positionOf(int node) {
        for (int position = 0; position < chainLength; position++) {
            if (chain[position] == node) {
                return position;
            }
        }
        return NOWHERE;
    }

    private int countStanding() {
        int standing = 0;
        for (int i = 0; i < nodes.length; i++) {
            if (!nodes[i].failed) {
                standing++;
            }
        }
        return standing;
    }

    private int updatesTowards(int position) {
        return position > 0 ? nodeAt(position - 1).link.updates.size : 0;
    }

    private int acknowledgementsTowards(int position) {
        boolean hasSuccessor = position != NOWHERE && !isTailAt(position);
        return hasSuccessor ? nodeAt(position).link.acknowledgements.size : 0;
    }

    private void applyAt(int position, int number) {
        Node node = nodeAt(position);
        node.history = number;
        node.values[keyOfUpdate[number]] = valueOfUpdate[number];
        if (isTailAt(position)) {
            acknowledgeAt(position, number);
        } else {
            node.link.putUpdate(number);
        }
    }

    private void acknowledgeAt(int position, int number) {
        nodeAt(position).acknowledged = number;
        if (isTailAt(position)) {
            replies = number;
        }
        if (position > 0) {
            nodeAt(position - 1).link.putAcknowledgement(number);
        }
    }

    private void acknowledgeAllSentAtTail() {
        int position = chainLength - 1;
        Node tail = nodeAt(position);
        for (int number = tail.acknowledged + 1; number <= tail.history; number++) {
            acknowledgeAt(position, number);
        }
    }

    private void closeLinksAt(int position) {
        if (position == NOWHERE) {
            return;
        }
        nodeAt(position).link.close();
        if (position > 0) {
            nodeAt(position - 1).link.close();
        }
    }

    // The link of a node whose successor is taken out was closed and emptied
    // when that one failed: as it is, it serves as the link to the new successor.
    private void takeOutFailed() {
        int kept = 0;
        for (int position = 0; position < chainLength; position++) {
            if (!nodeAt(position).failed) {
                chain[kept] = chain[position];
                kept++;
            }
        }
        chainLength = kept;
    }

    private boolean canResyncAt(int position) {
        if (position == NOWHERE || isTailAt(position)) {
            return false;
        }
        Node sender = nodeAt(position);
        return !sender.failed && !nodeAt(position + 1).failed && !sender.link.open;
    }
}
