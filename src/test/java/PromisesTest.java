/** For each promise: ordinary inputs, the edges that the document names, and wrong inputs. */
public final class PromisesTest {
    private static final String ARGUMENT = "IllegalArgumentException";
    private static final String STATE = "IllegalStateException";
    private static final String ELEMENT = "NoSuchElementException";
    private static final int[] NO_NODES_OF_THREE = {-1, 3, 6, Integer.MIN_VALUE, Integer.MAX_VALUE};
    private static final int[] NO_KEYS = {-1, 8, Integer.MIN_VALUE, Integer.MAX_VALUE};

    private interface Call {
        Object answer();
    }

    private static int wrong = 0;

    private static void due(String what, Object got, Object want) {
        if (!want.equals(got)) {
            wrong++;
            System.out.println(what + ": answered " + got + ", due is " + want);
        }
    }

    private static void dueThrow(String what, SplicedChain x, String want, Call call) {
        String before = picture(x);
        String got;
        try {
            got = "answer " + call.answer();
        } catch (RuntimeException e) {
            got = e.getClass().getSimpleName();
        }
        due(what, got, want);
        due(what + " changes nothing", picture(x), before);
    }

    private static int nodesOf(SplicedChain x) {
        int count = 0;
        while (true) {
            try {
                x.history(count);
            } catch (IllegalArgumentException e) {
                return count;
            }
            count++;
        }
    }

    // Few looks, because an object is used for at most 512 calls.
    private static String picture(SplicedChain x) {
        StringBuilder s = new StringBuilder();
        s.append(x.head()).append(' ').append(x.tail()).append(' ').append(x.lag());
        int nodes = nodesOf(x);
        for (int node = 0; node < nodes; node++) {
            s.append(" | ").append(x.sent(node)).append(' ').append(x.waiting(node));
            s.append(' ').append(x.valueAt(node, 0));
        }
        return s.toString();
    }

    private static void writes(SplicedChain x, int count) {
        for (int i = 0; i < count; i++) {
            x.write(i % 8, 100 + i);
        }
    }

    private static void delivers(SplicedChain x, int node, int count) {
        for (int i = 0; i < count; i++) {
            x.deliver(node);
        }
    }

    private static void acknowledges(SplicedChain x, int node, int count) {
        for (int i = 0; i < count; i++) {
            x.acknowledge(node);
        }
    }

    private static void newObject() {
        int[][] askedAndDue = {
            {1, 1}, {2, 2}, {3, 3}, {4, 4}, {5, 5}, {6, 6}, {0, 3}, {7, 3}, {-1, 3}, {100, 3},
            {Integer.MIN_VALUE, 3}, {Integer.MAX_VALUE, 3}
        };
        for (int[] pair : askedAndDue) {
            String what = "1: new SplicedChain(" + pair[0] + ")";
            SplicedChain x = new SplicedChain(pair[0]);
            due(what + " nodes", nodesOf(x), pair[1]);
            due(what + " head", x.head(), 0);
            due(what + " tail", x.tail(), pair[1] - 1);
            due(what + " lag", x.lag(), 0.0);
            due(what + " repair", x.repair(), 0);
            for (int node = 0; node < pair[1]; node++) {
                due(what + " history", x.history(node), 0);
                due(what + " sent", x.sent(node), 0);
                due(what + " waiting", x.waiting(node), 0);
                for (int key = 0; key < 8; key++) {
                    due(what + " value", x.valueAt(node, key), 0);
                }
            }
            due(what + " replied(0)", x.replied(0), false);
            due(what + " replied(1)", x.replied(1), false);
        }
        SplicedChain x = new SplicedChain(6);
        x.write(4, 44);
        for (int node = 1; node < 6; node++) {
            due("1: links are open in the order of the numbers", x.deliver(node), 1);
        }
        due("1: read at the end of the chain", x.read(4), 44);
        for (int node = 0; node < 5; node++) {
            int asked = node;
            dueThrow("1: resync of an open link", x, STATE, () -> x.resync(asked));
        }
    }

    private static void write() {
        SplicedChain x = new SplicedChain(3);
        due("2: first", x.write(0, 5), 1);
        due("2: second", x.write(7, Integer.MIN_VALUE), 2);
        due("2: third", x.write(0, -6), 3);
        due("2: the head applies", x.valueAt(0, 0), -6);
        due("2: the head applies key 7", x.valueAt(0, 7), Integer.MIN_VALUE);
        due("2: the others do not yet", x.valueAt(1, 0), 0);
        due("2: put on the link", x.waiting(1), 3);
        due("2: no reply yet", x.replied(1), false);
        for (int key : NO_KEYS) {
            dueThrow("2: key " + key, x, ARGUMENT, () -> x.write(key, 1));
        }
        x.fail(1);
        due("2: write to a closed link", x.write(1, 1), 4);
        due("2: nothing is put on a closed link", x.waiting(1), 0);
        x.fail(0);
        dueThrow("2: head failed", x, STATE, () -> x.write(0, 1));
        dueThrow("2: key first, head failed", x, ARGUMENT, () -> x.write(8, 1));

        SplicedChain alone = new SplicedChain(1);
        for (int i = 1; i <= 40; i++) {
            due("2: alone", alone.write(i % 8, i), i);
            due("2: alone replied", alone.replied(i), true);
            due("2: alone not further", alone.replied(i + 1), false);
            due("2: alone sent", alone.sent(0), 0);
            due("2: alone read", alone.read(i % 8), i);
        }
        dueThrow("2: history 40", alone, STATE, () -> alone.write(0, 1));
        dueThrow("2: key first, history 40", alone, ARGUMENT, () -> alone.write(-1, 1));

        SplicedChain full = new SplicedChain(2);
        writes(full, 40);
        due("2: forty on the link", full.waiting(1), 40);
        dueThrow("2: history 40 with a link", full, STATE, () -> full.write(0, 1));
        full.fail(0);
        full.repair();
        due("2: a new head counts from its own history", full.write(3, 3), 1);
    }

    private static void read() {
        SplicedChain x = new SplicedChain(2);
        x.write(3, 33);
        due("3: before delivery", x.read(3), 0);
        x.deliver(1);
        due("3: after delivery", x.read(3), 33);
        due("3: other key", x.read(2), 0);
        x.write(3, 34);
        due("3: the tail's, not the head's", x.read(3), 33);
        for (int key : NO_KEYS) {
            dueThrow("3: key " + key, x, ARGUMENT, () -> x.read(key));
        }
        x.fail(1);
        dueThrow("3: tail failed", x, STATE, () -> x.read(3));
        dueThrow("3: key first, tail failed", x, ARGUMENT, () -> x.read(8));
        x.repair();
        due("3: the new tail's", x.read(3), 34);

        SplicedChain headless = new SplicedChain(2);
        headless.fail(0);
        due("3: a failed head does not matter", headless.read(0), 0);
    }

    private static void deliver() {
        SplicedChain x = new SplicedChain(3);
        dueThrow("4: nothing on the link", x, ELEMENT, () -> x.deliver(1));
        x.write(1, 11);
        x.write(1, 12);
        dueThrow("4: the head", x, ELEMENT, () -> x.deliver(0));
        dueThrow("4: nothing yet for the tail", x, ELEMENT, () -> x.deliver(2));
        due("4: first update", x.deliver(1), 1);
        due("4: applied", x.valueAt(1, 1), 11);
        due("4: history", x.history(1), 1);
        due("4: sent in the middle", x.sent(1), 1);
        due("4: passed on", x.waiting(2), 1);
        due("4: one left", x.waiting(1), 1);
        due("4: no reply before the tail", x.replied(1), false);
        due("4: at the tail", x.deliver(2), 1);
        due("4: the tail acknowledges", x.sent(2), 0);
        due("4: the client has the reply", x.replied(1), true);
        due("4: only this one", x.replied(2), false);
        due("4: acknowledgement goes back one step", x.waiting(1), 101);
        due("4: and no further", x.waiting(0), 0);
        due("4: second update", x.deliver(1), 2);
        for (int node : NO_NODES_OF_THREE) {
            dueThrow("4: node " + node, x, ARGUMENT, () -> x.deliver(node));
        }
        x.fail(1);
        dueThrow("4: failed", x, STATE, () -> x.deliver(1));
        dueThrow("4: link emptied by the failure", x, ELEMENT, () -> x.deliver(2));
        x.fail(0);
        dueThrow("4: failed head, state first", x, STATE, () -> x.deliver(0));
        x.repair();
        dueThrow("4: taken out", x, STATE, () -> x.deliver(1));
        dueThrow("4: a new head", x, ELEMENT, () -> x.deliver(2));
    }

    private static void acknowledge() {
        SplicedChain x = new SplicedChain(3);
        dueThrow("5: nothing on the link", x, ELEMENT, () -> x.acknowledge(0));
        writes(x, 2);
        delivers(x, 1, 2);
        delivers(x, 2, 2);
        dueThrow("5: the tail", x, ELEMENT, () -> x.acknowledge(2));
        dueThrow("5: not yet at the head", x, ELEMENT, () -> x.acknowledge(0));
        due("5: two on the link", x.waiting(1), 200);
        due("5: first", x.acknowledge(1), 1);
        due("5: one less sent", x.sent(1), 1);
        due("5: one less on the link", x.waiting(1), 100);
        due("5: passed back", x.waiting(0), 100);
        due("5: at the head", x.acknowledge(0), 1);
        due("5: one less sent at the head", x.sent(0), 1);
        due("5: second", x.acknowledge(1), 2);
        due("5: replies are the tail's", x.replied(2), true);
        due("5: replies go no further", x.replied(3), false);
        for (int node : NO_NODES_OF_THREE) {
            dueThrow("5: node " + node, x, ARGUMENT, () -> x.acknowledge(node));
        }
        x.fail(2);
        dueThrow("5: failed tail, state first", x, STATE, () -> x.acknowledge(2));
        dueThrow("5: link emptied by the failure", x, ELEMENT, () -> x.acknowledge(1));
        x.fail(1);
        dueThrow("5: failed", x, STATE, () -> x.acknowledge(1));
        x.repair();
        dueThrow("5: taken out", x, STATE, () -> x.acknowledge(1));
        dueThrow("5: head and tail at once", x, ELEMENT, () -> x.acknowledge(0));

        SplicedChain cut = new SplicedChain(4);
        writes(cut, 1);
        delivers(cut, 1, 1);
        delivers(cut, 2, 1);
        delivers(cut, 3, 1);
        cut.fail(1);
        due("5: behind a closed link", cut.acknowledge(2), 1);
        due("5: nothing is put on the closed link", cut.waiting(1), 0);
        due("5: acknowledged all the same", cut.sent(2), 0);
        cut.repair();
        due("5: the closed link stays empty", cut.waiting(0), 0);
    }

    private static void fail() {
        SplicedChain x = new SplicedChain(3);
        writes(x, 3);
        delivers(x, 1, 2);
        delivers(x, 2, 1);
        due("6: before", x.waiting(1), 101);
        for (int node : NO_NODES_OF_THREE) {
            dueThrow("6: node " + node, x, ARGUMENT, () -> x.fail(node));
        }
        due("6: fails", x.fail(1), true);
        due("6: keeps its history", x.history(1), 2);
        due("6: keeps its acknowledged number", x.sent(1), 2);
        due("6: keeps its values", x.valueAt(1, 1), 101);
        due("6: link to the successor emptied", x.waiting(2), 0);
        due("6: links to it emptied", x.waiting(1), 0);
        due("6: stays in the chain, head", x.head(), 0);
        due("6: stays in the chain, tail", x.tail(), 2);
        dueThrow("6: again", x, "answer false", () -> x.fail(1));
        due("6: the tail too", x.fail(2), true);
        due("6: stays the tail", x.tail(), 2);
        dueThrow("6: all others have", x, "answer false", () -> x.fail(0));
        x.repair();
        dueThrow("6: taken out", x, "answer false", () -> x.fail(1));
        dueThrow("6: all others are taken out", x, "answer false", () -> x.fail(0));
        due("6: it works still", x.write(0, 9), 4);

        SplicedChain alone = new SplicedChain(1);
        dueThrow("6: no others", alone, "answer false", () -> alone.fail(0));
        dueThrow("6: no such node", alone, ARGUMENT, () -> alone.fail(1));

        SplicedChain far = new SplicedChain(4);
        writes(far, 2);
        delivers(far, 1, 1);
        far.fail(3);
        due("6: other links stay", far.waiting(1), 1);
        due("6: other links stay behind", far.waiting(2), 1);
        far.fail(0);
        due("6: a failed head stays", far.head(), 0);
        due("6: the head's link emptied", far.waiting(1), 0);
        due("6: the middle link stays", far.waiting(2), 1);
    }

    private static void repair() {
        SplicedChain x = new SplicedChain(4);
        writes(x, 4);
        delivers(x, 1, 3);
        delivers(x, 2, 2);
        due("7: none failed", x.repair(), 0);
        due("7: links stay", x.waiting(1) + x.waiting(2) + x.waiting(3), 4);
        x.fail(3);
        due("7: the tail taken out", x.repair(), 1);
        due("7: new tail", x.tail(), 2);
        due("7: its sent updates are acknowledged", x.sent(2), 0);
        due("7: replies", x.replied(2), true);
        due("7: replies no further", x.replied(3), false);
        due("7: link kept, acknowledgements put on it", x.waiting(1), 201);
        due("7: updates stay on the kept link", x.waiting(2), 1);
        due("7: in order", x.acknowledge(1), 1);
        due("7: in order, second", x.acknowledge(1), 2);
        due("7: the link works on", x.deliver(2), 3);
        due("7: reply of the new tail", x.replied(3), true);
        due("7: nothing more", x.repair(), 0);

        SplicedChain two = new SplicedChain(5);
        writes(two, 3);
        delivers(two, 1, 2);
        delivers(two, 2, 1);
        two.fail(1);
        two.fail(2);
        due("7: two side by side", two.repair(), 2);
        due("7: head stays", two.head(), 0);
        due("7: tail stays", two.tail(), 4);
        due("7: tail as before, nothing acknowledged", two.replied(1), false);
        due("7: the new link is closed", two.waiting(3), 0);
        two.write(0, 1);
        due("7: nothing put on the closed link", two.waiting(3), 0);
        dueThrow("7: nothing to deliver", two, ELEMENT, () -> two.deliver(3));
        dueThrow("7: the old link is open", two, STATE, () -> two.resync(3));
        due("7: the new link is closed until now", two.resync(0), 4);

        SplicedChain ends = new SplicedChain(4);
        writes(ends, 3);
        delivers(ends, 1, 2);
        delivers(ends, 2, 1);
        ends.fail(0);
        ends.fail(3);
        due("7: both ends", ends.repair(), 2);
        due("7: the second is the head", ends.head(), 1);
        due("7: the third is the tail", ends.tail(), 2);
        due("7: kept link with both", ends.waiting(2) + ends.waiting(1), 101);
        due("7: the new head has none before it", ends.waiting(1), 100);
        due("7: its write is 1 more than its history", ends.write(5, 55), 3);
        delivers(ends, 2, 2);
        due("7: the lost number has the new value", ends.read(5), 55);
        due("7: and not the old one", ends.read(2), 0);
        due("7: the failed head keeps its own", ends.valueAt(0, 2), 102);

        SplicedChain last = new SplicedChain(6);
        writes(last, 2);
        for (int node = 1; node < 6; node++) {
            last.fail(node);
        }
        due("7: all but one", last.repair(), 5);
        due("7: one is both", last.tail() * 10 + last.head(), 0);
        due("7: all it has sent is replied", last.replied(2), true);
        due("7: write goes on", last.write(6, 66), 3);
        due("7: and is replied", last.replied(3), true);
        due("7: and read", last.read(6), 66);

        SplicedChain cut = new SplicedChain(5);
        writes(cut, 2);
        delivers(cut, 1, 2);
        delivers(cut, 2, 2);
        delivers(cut, 3, 2);
        cut.fail(2);
        cut.fail(4);
        due("7: tail and middle", cut.repair(), 2);
        due("7: the new tail acknowledges", cut.sent(3), 0);
        due("7: not over a closed link", cut.waiting(1), 0);
        due("7: replies over a closed link", cut.replied(2), true);
    }

    private static void resync() {
        SplicedChain x = new SplicedChain(4);
        writes(x, 6);
        delivers(x, 1, 5);
        delivers(x, 2, 4);
        delivers(x, 3, 3);
        acknowledges(x, 2, 2);
        acknowledges(x, 1, 1);
        for (int node : new int[] {-1, 4, Integer.MIN_VALUE, Integer.MAX_VALUE}) {
            dueThrow("8: node " + node, x, ARGUMENT, () -> x.resync(node));
        }
        dueThrow("8: open link", x, STATE, () -> x.resync(0));
        dueThrow("8: the tail", x, STATE, () -> x.resync(3));
        x.fail(1);
        dueThrow("8: failed", x, STATE, () -> x.resync(1));
        dueThrow("8: successor failed", x, STATE, () -> x.resync(0));
        x.repair();
        dueThrow("8: taken out", x, STATE, () -> x.resync(1));
        due("8: sent at the head before", x.sent(0), 6);
        due("8: updates put on the link", x.resync(0), 2);
        due("8: updates", x.waiting(2), 102);
        due("8: acknowledgements", x.waiting(0), 200);
        dueThrow("8: open now", x, STATE, () -> x.resync(0));
        due("8: deliver in order", x.deliver(2), 5);
        due("8: deliver in order, second", x.deliver(2), 6);
        due("8: acknowledge in order", x.acknowledge(0), 1);
        due("8: acknowledge in order, second", x.acknowledge(0), 2);
        due("8: values came over", x.valueAt(2, 5), 105);
        x.write(0, 77);
        due("8: open for writes", x.deliver(2), 7);
        due("8: the third acknowledgement", x.acknowledge(2), 3);
        due("8: open for acknowledgements", x.acknowledge(0), 3);

        SplicedChain level = new SplicedChain(3);
        writes(level, 1);
        delivers(level, 1, 1);
        delivers(level, 2, 1);
        level.fail(1);
        level.repair();
        due("8: nothing to put", level.resync(0), 0);
        due("8: but the acknowledgement", level.waiting(0), 100);
        due("8: no update", level.waiting(2), 0);

        SplicedChain fresh = new SplicedChain(3);
        fresh.fail(1);
        fresh.repair();
        due("8: new chain", fresh.resync(0), 0);
        due("8: nothing either way", fresh.waiting(0) + fresh.waiting(2), 0);

        SplicedChain full = new SplicedChain(3);
        writes(full, 40);
        full.fail(1);
        full.repair();
        due("8: forty", full.resync(0), 40);
        for (int i = 1; i <= 40; i++) {
            due("8: forty delivered", full.deliver(2), i);
        }
        due("8: forty acknowledgements", full.waiting(0), 4000);
        for (int i = 1; i <= 40; i++) {
            due("8: forty acknowledged", full.acknowledge(0), i);
        }

        SplicedChain late = new SplicedChain(3);
        writes(late, 40);
        delivers(late, 1, 40);
        delivers(late, 2, 40);
        late.fail(1);
        late.repair();
        due("8: forty acknowledgements, no update", late.resync(0), 0);
        due("8: forty acknowledgements wait", late.waiting(0), 4000);

        SplicedChain unrepaired = new SplicedChain(3);
        unrepaired.fail(2);
        dueThrow("8: a failed tail", unrepaired, STATE, () -> unrepaired.resync(2));
        dueThrow("8: before a failed tail", unrepaired, STATE, () -> unrepaired.resync(1));
        dueThrow("8: argument first", unrepaired, ARGUMENT, () -> unrepaired.resync(3));
        unrepaired.repair();
        dueThrow("8: the new tail", unrepaired, STATE, () -> unrepaired.resync(1));
    }

    private static void replied() {
        SplicedChain x = new SplicedChain(2);
        writes(x, 3);
        due("9: none yet", x.replied(1), false);
        delivers(x, 1, 2);
        due("9: first", x.replied(1), true);
        due("9: second", x.replied(2), true);
        due("9: not the third", x.replied(3), false);
        due("9: zero", x.replied(0), false);
        due("9: less than zero", x.replied(-1), false);
        due("9: least", x.replied(Integer.MIN_VALUE), false);
        due("9: greatest", x.replied(Integer.MAX_VALUE), false);
        x.fail(1);
        due("9: a failure takes no reply away", x.replied(2), true);
        due("9: and gives none", x.replied(3), false);
        x.repair();
        due("9: the new tail replies", x.replied(3), true);
        due("9: no further", x.replied(4), false);
    }

    private static void headAndTail() {
        SplicedChain x = new SplicedChain(5);
        due("10: first", x.head(), 0);
        due("11: last", x.tail(), 4);
        x.fail(0);
        x.fail(1);
        x.fail(4);
        due("10: failed head", x.head(), 0);
        due("11: failed tail", x.tail(), 4);
        x.repair();
        due("10: after a repair", x.head(), 2);
        due("11: after a repair", x.tail(), 3);
        x.fail(2);
        x.repair();
        due("10: one left", x.head(), 3);
        due("11: one left", x.tail(), 3);
        SplicedChain alone = new SplicedChain(1);
        due("10: alone", alone.head(), 0);
        due("11: alone", alone.tail(), 0);
    }

    private static void valueAt() {
        SplicedChain x = new SplicedChain(3);
        for (int key = 0; key < 8; key++) {
            x.write(key, 10 + key);
        }
        delivers(x, 1, 5);
        for (int key = 0; key < 8; key++) {
            due("12: head " + key, x.valueAt(0, key), 10 + key);
            due("12: middle " + key, x.valueAt(1, key), key < 5 ? 10 + key : 0);
            due("12: tail " + key, x.valueAt(2, key), 0);
        }
        x.fail(1);
        due("12: failed", x.valueAt(1, 4), 14);
        x.repair();
        due("12: taken out", x.valueAt(1, 4), 14);
        x.write(4, 99);
        due("12: taken out, unchanged", x.valueAt(1, 4), 14);
        for (int node : NO_NODES_OF_THREE) {
            dueThrow("12: node " + node, x, ARGUMENT, () -> x.valueAt(node, 0));
        }
        for (int key : NO_KEYS) {
            dueThrow("12: key " + key, x, ARGUMENT, () -> x.valueAt(0, key));
        }
        dueThrow("12: neither", x, ARGUMENT, () -> x.valueAt(3, 8));
    }

    private static void historyAndSent() {
        SplicedChain x = new SplicedChain(3);
        writes(x, 5);
        delivers(x, 1, 4);
        delivers(x, 2, 3);
        acknowledges(x, 1, 2);
        acknowledges(x, 0, 1);
        due("13: head", x.history(0), 5);
        due("13: middle", x.history(1), 4);
        due("13: tail", x.history(2), 3);
        due("14: head", x.sent(0), 4);
        due("14: middle", x.sent(1), 2);
        due("14: tail", x.sent(2), 0);
        x.fail(1);
        x.write(0, 1);
        due("13: failed", x.history(1), 4);
        due("14: failed", x.sent(1), 2);
        due("14: sent though not put on the link", x.sent(0), 5);
        x.repair();
        due("13: taken out", x.history(1), 4);
        due("14: taken out", x.sent(1), 2);
        for (int node : NO_NODES_OF_THREE) {
            dueThrow("13: node " + node, x, ARGUMENT, () -> x.history(node));
            dueThrow("14: node " + node, x, ARGUMENT, () -> x.sent(node));
        }
    }

    private static void waiting() {
        SplicedChain x = new SplicedChain(3);
        writes(x, 7);
        delivers(x, 1, 5);
        delivers(x, 2, 3);
        acknowledges(x, 1, 1);
        due("15: head, acknowledgements alone", x.waiting(0), 100);
        due("15: middle, both", x.waiting(1), 202);
        due("15: tail, updates alone", x.waiting(2), 2);
        for (int node : NO_NODES_OF_THREE) {
            dueThrow("15: node " + node, x, ARGUMENT, () -> x.waiting(node));
        }
        x.fail(0);
        due("15: failed", x.waiting(0), 0);
        due("15: from a failed one", x.waiting(1), 200);
        x.repair();
        due("15: taken out", x.waiting(0), 0);
        due("15: new head", x.waiting(1), 200);
        due("15: tail as before", x.waiting(2), 2);
        x.fail(2);
        x.repair();
        due("15: head and tail at once", x.waiting(1), 0);
        due("15: tail taken out", x.waiting(2), 0);
    }

    private static void lag() {
        SplicedChain x = new SplicedChain(3);
        due("16: new", x.lag(), 0.0);
        writes(x, 4);
        due("16: head alone has them", x.lag(), 8.0 / 3);
        delivers(x, 1, 3);
        delivers(x, 2, 1);
        due("16: on the way", x.lag(), 4.0 / 3);
        x.fail(1);
        due("16: without the failed", x.lag(), 1.5);
        x.repair();
        due("16: without what was taken out", x.lag(), 1.5);
        x.fail(0);
        due("16: the first that has not failed counts", x.lag(), 0.0);

        SplicedChain headless = new SplicedChain(4);
        writes(headless, 9);
        delivers(headless, 1, 5);
        delivers(headless, 2, 2);
        headless.fail(0);
        due("16: behind a failed head", headless.lag(), 8.0 / 3);
        headless.fail(3);
        due("16: and a failed tail", headless.lag(), 1.5);
        due("16: alone", new SplicedChain(1).lag(), 0.0);
    }

    public static void main(String[] args) {
        newObject();
        write();
        read();
        deliver();
        acknowledge();
        fail();
        repair();
        resync();
        replied();
        headAndTail();
        valueAt();
        historyAndSent();
        waiting();
        lag();
        System.out.println(wrong == 0 ? "all answers are as due" : wrong + " answers are not as due");
        if (wrong != 0) {
            System.exit(1);
        }
    }
}
