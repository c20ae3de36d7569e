/** Each promise by hand: ordinary programs, the edges that the document names, wrong inputs. */
public final class Promises extends Checks {
    public static void main(String[] args) {
        newObject();
        threads();
        actionsOneByOne();
        actionsTogether();
        clearing();
        runsOfLitmusTests();
        outcomesInOrder();
        kindsOfActions();
        skips();
        largestValues();
        witnesses();
        witnessesOfKnowing();
        ordersAndGraphs();
        addsStandRightBehind();
        beyondOthers();
        races();
        raceArguments();
        askedAgainAfterChange();
        end();
    }

    private static void newObject() {
        due(1, "NONE", OrderModels.NONE, -1);
        OrderModels m = new OrderModels();
        for (int model = 0; model < 4; model++) {
            due(1, "runs of nothing", m.runs(model), 1);
            due(1, "orders of nothing", m.orders(model), 1);
            due(1, "graphs of nothing", m.graphs(model), 1);
            due(1, "witness of nothing", m.witness(model, 0, 0), -1);
            for (int what = 0; what < 11; what++) {
                due(1, "outcome of nothing", m.outcome(model, 0, what), 0);
                due(1, "ordered of nothing", m.ordered(model, 0, what), 0);
            }
        }
        due(1, "races of nothing", m.races(), 0);
        due(1, "action without a thread", m.action(0, WRITE, 0, 0, 1), -1);
        due(1, "clear", m.clear(), 0);
    }

    private static void threads() {
        OrderModels m = new OrderModels();
        for (int t = 0; t < 4; t++) {
            due(2, "thread()", m.thread(), t);
        }
        due(2, "fifth thread()", m.thread(), -1);
        due(2, "sixth thread()", m.thread(), -1);
        due(2, "action of thread 3", m.action(3, WRITE, 0, 0, 1), 1);
        due(2, "action of thread 4", m.action(4, WRITE, 0, 0, 1), -1);
        due(2, "clear", m.clear(), 4);
    }

    private static boolean fits(int kind, int x, int register, int v) {
        boolean variable = x == 0 || x == 1 || x == 2;
        boolean cell = register == 0 || register == 1;
        boolean number = Math.abs((long) v) <= 9;
        if (kind == READ) {
            return variable && cell && v == 0;
        }
        if (kind == WRITE) {
            return variable && register == 0 && number;
        }
        if (kind == SEND || kind == ADD) {
            return variable && cell && number;
        }
        if (kind == FENCE) {
            return x == 0 && register == 0 && v == 0;
        }
        return kind == SKIP && (variable && x != 0 || x == 3) && cell && number;
    }

    private static void actionsOneByOne() {
        int[] kinds = {Integer.MIN_VALUE, -1, 0, 1, 2, 3, 4, 5, 6, Integer.MAX_VALUE};
        int[] xs = {Integer.MIN_VALUE, -1, 0, 1, 2, 3, 4, Integer.MAX_VALUE};
        int[] registers = {Integer.MIN_VALUE, -1, 0, 1, 2, Integer.MAX_VALUE};
        int[] vs = {Integer.MIN_VALUE, -10, -9, -1, 0, 1, 9, 10, Integer.MAX_VALUE};
        OrderModels m = new OrderModels();
        for (int kind : kinds) {
            for (int x : xs) {
                for (int register : registers) {
                    for (int v : vs) {
                        m.clear();
                        m.thread();
                        boolean fits = fits(kind, x, register, v);
                        String call = "action(0, " + kind + ", " + x + ", " + register + ", " + v + ")";
                        due(3, call, m.action(0, kind, x, register, v), fits ? 1 : -1);
                        due(3, "one after " + call, m.action(0, WRITE, 0, 0, 0), fits ? 2 : 1);
                        due(3, "no such thread: " + call, m.action(1, kind, x, register, v), -1);
                        due(3, "no such thread: " + call, m.action(-1, kind, x, register, v), -1);
                    }
                }
            }
        }
    }

    private static void actionsTogether() {
        OrderModels m = of(3, write(0, 0, 1), write(1, 0, 2), write(2, 0, 3), write(0, 1, 4), write(1, 1, 5),
                write(2, 1, 6), write(0, 2, 7));
        int runs = m.runs(3);
        int graphs = m.graphs(3);
        for (int t = 0; t < 3; t++) {
            due(3, "an eighth action", m.action(t, WRITE, 0, 0, 1), -1);
        }
        due(3, "fourth thread", m.thread(), 3);
        due(3, "an eighth action of a new thread", m.action(3, FENCE, 0, 0, 0), -1);
        due(3, "runs as before", m.runs(3), runs);
        due(3, "graphs as before", m.graphs(3), graphs);
        due(3, "no action of thread 3", m.race(0, 0, 3, 0), -1);
        due(3, "seven of one thread", of(1, fence(0), fence(0), fence(0), fence(0), fence(0), fence(0), fence(0))
                .action(0, FENCE, 0, 0, 0), -1);
    }

    private static void clearing() {
        OrderModels m = storeBuffering();
        due(4, "runs before", m.runs(0), 3);
        due(4, "races before", m.races(), 2);
        due(4, "clear", m.clear(), 2);
        due(4, "clear again", m.clear(), 0);
        due(4, "runs after", m.runs(0), 1);
        due(4, "graphs after", m.graphs(0), 1);
        due(4, "races after", m.races(), 0);
        due(4, "race after", m.race(0, 0, 1, 1), -1);
        due(4, "action after", m.action(0, FENCE, 0, 0, 0), -1);
        tell(m, 1, fence(0), fence(0), fence(0), fence(0), fence(0), fence(0), write(0, 2, -9));
        due(4, "a new program", m.outcome(0, 0, 10), -9);
    }

    private static void runsOfLitmusTests() {
        dueRuns("store buffering", storeBuffering(), 3, 4, 4, 4);
        dueRuns("store buffering, fenced", storeBufferingFenced(), 3, 3, 3, 3);
        dueRuns("store buffering, own reads first", ownReadsFirst(), 3, 4, 4, 4);
        dueRuns("message passing", messagePassing(), 3, 3, 4, 3);
        dueRuns("load buffering", loadBuffering(), 3, 3, 3, 3);
        dueRuns("two writes twice", twoWritesTwice(), 3, 3, 4, 4);
        dueRuns("independent reads", independentReads(), 15, 15, 15, 16);
        dueRuns("two adds", twoAdds(), 2, 2, 2, 2);
        OrderModels m = storeBuffering();
        for (int model : WRONG_MODELS) {
            due(5, "runs(" + model + ")", m.runs(model), -1);
            due(8, "orders(" + model + ")", m.orders(model), -1);
            due(10, "graphs(" + model + ")", m.graphs(model), -1);
        }
    }

    private static void outcomesInOrder() {
        OrderModels m = of(4, write(0, 0, -9), write(1, 0, 9), read(2, 0, 1), write(3, 0, 0));
        for (int model = 0; model < 4; model++) {
            int last = Integer.MIN_VALUE;
            int count = m.runs(model);
            due(6, "every value seen, every one last", count, 9);
            for (int i = 0; i < count; i++) {
                int now = 100 * m.outcome(model, i, 5) + m.outcome(model, i, 8);
                due(6, "rising at " + i, now > last ? 1 : 0, 1);
                due(9, "ordered the same at " + i, m.ordered(model, i, 5), m.outcome(model, i, 5));
                last = now;
            }
            due(6, "least first", m.outcome(model, 0, 5), -9);
            due(6, "its variable", m.outcome(model, 0, 8), -9);
            due(6, "greatest last", m.outcome(model, 8, 5), 9);
        }
        int[] wrongs = {Integer.MIN_VALUE, -1, 11, Integer.MAX_VALUE};
        for (int one : wrongs) {
            due(6, "what " + one, m.outcome(0, 0, one), -1000);
            due(9, "what " + one, m.ordered(0, 0, one), -1000);
            due(6, "i " + one, m.outcome(0, one, 0), -1000);
            due(9, "i " + one, m.ordered(0, one, 0), -1000);
        }
        due(6, "i 9", m.outcome(0, 9, 0), -1000);
        due(9, "i 9", m.ordered(0, 9, 0), -1000);
        for (int model : WRONG_MODELS) {
            due(6, "model " + model, m.outcome(model, 0, 0), -1000);
            due(9, "model " + model, m.ordered(model, 0, 0), -1000);
        }
    }

    private static void kindsOfActions() {
        OrderModels m = of(1, write(0, 0, 5), read(0, 0, 1), send(0, 1, 1, -7), add(0, 1, 0, 9), send(0, 2, 0, 0),
                fence(0), add(0, 2, 1, -1));
        int[] want = {-2, -2, 0, 0, 0, 0, 0, 0, 5, 7, -3};
        for (int model = 0; model < 4; model++) {
            due(5, "one thread", m.runs(model), 1);
            due(10, "one thread", m.graphs(model), 1);
            for (int what = 0; what < 11; what++) {
                due(6, "one thread, " + what, m.outcome(model, 0, what), want[what]);
                due(9, "one thread, " + what, m.ordered(model, 0, what), want[what]);
            }
        }
        OrderModels last = of(4, send(3, 2, 1, 4), read(3, 2, 1), read(3, 2, 0));
        due(6, "register 1 of thread 3", last.outcome(2, 0, 7), 4);
        due(6, "register 0 of thread 3", last.outcome(2, 0, 6), 4);
        due(6, "variable 2", last.outcome(2, 0, 10), 4);
    }

    private static void skips() {
        OrderModels taken = of(1, skip(0, 1, 0, 5), write(0, 0, 1), write(0, 1, 2));
        OrderModels not = of(1, skip(0, 1, 0, 0), write(0, 0, 1), write(0, 1, 2));
        OrderModels past = of(1, write(0, 2, 3), skip(0, 3, 1, -1), write(0, 0, 1));
        OrderModels over = of(1, skip(0, 2, 0, 5), skip(0, 3, 0, 5), write(0, 0, 1), write(0, 1, 2));
        for (int model = 0; model < 4; model++) {
            due(6, "passed over", taken.outcome(model, 0, 8), 0);
            due(6, "behind it", taken.outcome(model, 0, 9), 2);
            due(9, "passed over", taken.ordered(model, 0, 8), 0);
            due(9, "behind it", taken.ordered(model, 0, 9), 2);
            due(6, "not passed over", not.outcome(model, 0, 8), 1);
            due(6, "past the end", past.outcome(model, 0, 8), 0);
            due(6, "ahead of it", past.outcome(model, 0, 10), 3);
            due(10, "past the end", past.graphs(model), 1);
            due(6, "a skip passed over does not skip", over.outcome(model, 0, 9), 2);
            due(6, "both passed over", over.outcome(model, 0, 8), 0);
        }
        due(7, "a skip is a step", taken.witness(0, 0, 0), 0);
        due(7, "then what is behind", taken.witness(0, 0, 1), 0);
        due(7, "what is passed over is none", taken.witness(0, 0, 2), -1);
        due(7, "nor past the end", past.witness(0, 0, 2), -1);
        // what another thread writes tells what happens
        OrderModels m = of(2, write(0, 0, 1), read(1, 0, 0), skip(1, 3, 0, 1), write(1, 1, 7));
        dueRuns("a skip by what is read", m, 2, 2, 2, 2);
        due(6, "not seen, not done", m.outcome(0, 0, 9), 0);
        due(6, "seen, done", m.outcome(0, 1, 9), 7);
        due(9, "not seen, not done", m.ordered(3, 0, 9), 0);
        due(9, "seen, done", m.ordered(3, 1, 9), 7);
    }

    private static void largestValues() {
        for (int v = -9; v <= 9; v += 18) {
            OrderModels m = of(1, add(0, 2, 1, v), add(0, 2, 1, v), add(0, 2, 1, v), add(0, 2, 1, v),
                    add(0, 2, 1, v), add(0, 2, 1, v), add(0, 2, 1, v));
            for (int model = 0; model < 4; model++) {
                due(6, "sum of seven", m.outcome(model, 0, 10), 7 * v);
                due(6, "sum of six", m.outcome(model, 0, 1), 6 * v);
                due(9, "sum of seven", m.ordered(model, 0, 10), 7 * v);
            }
        }
    }

    private static void witnesses() {
        OrderModels m = storeBuffering();
        dueWitness(m, 0, 0, 0, 0, 100, 100);
        dueWitness(m, 0, 1, 100, 100, 0, 0);
        dueWitness(m, 0, 2, 0, 100, 0, 100);
        dueWitness(m, 1, 0, 0, 0, 100, 100, 1, 101);
        dueWitness(m, 1, 1, 0, 0, 1, 100, 100, 101);
        dueWitness(m, 2, 0, 0, 0, 100, 100, 1, 102);
        // behind a fence and an add the buffers are empty
        OrderModels f = of(1, write(0, 2, 1), write(0, 1, 1), fence(0), write(0, 0, 2), add(0, 1, 0, 1));
        dueWitness(f, 0, 0, 0, 0, 0, 0, 0);
        dueWitness(f, 1, 0, 0, 0, 1, 1, 0, 0, 1, 0);
        dueWitness(f, 2, 0, 0, 0, 2, 3, 0, 0, 1, 0);
        int[] wrongs = {Integer.MIN_VALUE, -1, 14, Integer.MAX_VALUE};
        for (int one : wrongs) {
            due(7, "k " + one, m.witness(1, 0, one), -1);
            due(7, "i " + one, m.witness(1, one, 0), -1);
        }
        for (int model : WRONG_MODELS) {
            due(7, "model " + model, m.witness(model, 0, 0), -1);
        }
    }

    private static void witnessesOfKnowing() {
        OrderModels m = storeBuffering();
        dueWitness(m, 3, 0, 1, 0, 101, 100);
        dueWitness(m, 3, 1, 1, 0, 101, 101);
        dueWitness(twoAdds(), 3, 0, 0, 101);
        dueWitness(twoAdds(), 3, 1, 100, 1);
        dueWitness(of(2, fence(0), fence(1), fence(0)), 3, 0, 0, 0, 100);
        // the later write comes ahead of the earlier one in the row
        OrderModels w = of(2, write(0, 0, 1), write(1, 0, 2));
        dueWitness(w, 3, 0, 1, 101);
        dueWitness(w, 3, 1, 1, 102);
    }

    private static void ordersAndGraphs() {
        dueGraphs("store buffering", storeBuffering(), 3, 4, 4, 4);
        // in model 3 the fences have a row too: both orders let (1, 1) stand
        dueGraphs("store buffering, fenced", storeBufferingFenced(), 3, 3, 3, 4);
        dueGraphs("independent reads", independentReads(), 15, 15, 15, 16);
        dueGraphs("two fences", of(2, fence(0), fence(1)), 1, 1, 1, 2);
        // two graphs, one outcome
        OrderModels same = of(2, write(0, 0, 1), write(1, 0, 1));
        dueGraphs("two writes of one value", same, 2, 2, 2, 2);
        dueRuns("two writes of one value", same, 1, 1, 1, 1);
        // 7! / (2! 2! 2!) rows keep to the order of the threads
        OrderModels many = of(4, write(0, 1, 1), write(0, 1, 2), write(1, 1, 3), write(1, 1, 4), write(2, 1, 5),
                write(2, 1, 6), write(3, 1, 7));
        dueGraphs("seven writes", many, 630, 630, 630, 630);
        dueRuns("seven writes", many, 4, 4, 4, 4);
        // no value comes from nowhere
        OrderModels ring = of(2, read(0, 0, 0), send(0, 1, 0, 1), read(1, 1, 0), send(1, 0, 0, 1));
        dueGraphs("no ring of FROM", ring, 3, 3, 3, 3);
        dueRuns("no ring of FROM", ring, 3, 3, 3, 3);
    }

    private static void addsStandRightBehind() {
        OrderModels m = of(2, add(0, 0, 0, 1), write(1, 0, 5));
        dueGraphs("add and write", m, 2, 2, 2, 2);
        dueRuns("add and write", m, 2, 2, 2, 2);
        for (int model = 0; model < 4; model++) {
            due(9, "from the first", m.ordered(model, 0, 0), 0);
            due(9, "the write is last", m.ordered(model, 0, 8), 5);
            due(9, "from the write", m.ordered(model, 1, 0), 5);
            due(9, "the add is last", m.ordered(model, 1, 8), 6);
        }
        dueGraphs("two adds", twoAdds(), 2, 2, 2, 2);
    }

    private static void beyondOthers() {
        OrderModels buffering = storeBuffering();
        OrderModels passing = messagePassing();
        OrderModels twice = twoWritesTwice();
        OrderModels reads = independentReads();
        due(11, "buffers beyond in turn", buffering.beyond(1, 0), 1);
        due(11, "in turn beyond buffers", buffering.beyond(0, 1), 0);
        due(11, "one buffer for each beyond one", passing.beyond(2, 1), 1);
        due(11, "and beyond what is known", passing.beyond(2, 3), 1);
        due(11, "not the other way", passing.beyond(3, 2), 0);
        due(11, "known beyond buffers", twice.beyond(3, 1), 1);
        due(11, "known beyond all", reads.beyond(3, 2), 1);
        for (int model = 0; model < 4; model++) {
            due(11, "beyond itself", reads.beyond(model, model), 0);
        }
        for (int model : WRONG_MODELS) {
            due(11, "beyond(" + model + ", 0)", reads.beyond(model, 0), -1);
            due(11, "beyond(0, " + model + ")", reads.beyond(0, model), -1);
            due(11, "beyond itself", reads.beyond(model, model), -1);
        }
    }

    private static void races() {
        due(12, "store buffering", storeBuffering().races(), 2);
        due(12, "two adds", twoAdds().races(), 0);
        due(12, "two reads", of(2, read(0, 0, 0), read(1, 0, 0)).races(), 0);
        due(12, "read and add", of(2, read(0, 0, 0), add(1, 0, 0, 1)).races(), 1);
        due(12, "write and add", of(2, write(0, 0, 0), add(1, 0, 0, 1)).races(), 1);
        due(12, "send and write", of(2, send(0, 0, 0, 1), write(1, 0, 1)).races(), 1);
        due(12, "two variables", of(2, write(0, 0, 0), write(1, 1, 1)).races(), 0);
        due(12, "fences have no variable", of(2, fence(0), write(1, 0, 1)).races(), 0);
        due(12, "nor have skips", of(2, skip(0, 1, 0, 0), write(1, 1, 1)).races(), 0);
        due(12, "own actions", of(1, write(0, 0, 1), write(0, 0, 2)).races(), 0);
        due(12, "four writes", of(4, write(0, 0, 1), write(1, 0, 1), write(2, 0, 1), write(3, 0, 1)).races(), 6);
        // the read behind the skip is next only when the write is done
        OrderModels guarded = of(2, write(0, 0, 1), write(0, 1, 1), read(1, 1, 0), skip(1, 1, 0, 1), read(1, 0, 1));
        due(12, "guarded", guarded.races(), 1);
        due(13, "the guard", guarded.race(0, 1, 1, 0), 1);
        due(13, "the guarded", guarded.race(0, 0, 1, 2), 0);
    }

    private static void raceArguments() {
        OrderModels m = storeBuffering();
        m.thread();
        due(13, "a race", m.race(0, 0, 1, 1), 1);
        due(13, "the other way round", m.race(1, 1, 0, 0), 1);
        due(13, "the other race", m.race(0, 1, 1, 0), 1);
        due(13, "none", m.race(0, 0, 1, 0), 0);
        due(13, "one thread twice", m.race(0, 0, 0, 1), -1);
        due(13, "one action twice", m.race(0, 0, 0, 0), -1);
        due(13, "an empty thread", m.race(2, 0, 0, 0), -1);
        due(13, "an empty thread", m.race(0, 0, 2, 0), -1);
        int[] wrongs = {Integer.MIN_VALUE, -1, 2, 7, 8, Integer.MAX_VALUE};
        for (int one : wrongs) {
            due(13, "i " + one, m.race(0, one, 1, 0), -1);
            due(13, "j " + one, m.race(0, 0, 1, one), -1);
            due(13, "thread " + one, m.race(one, 0, 1, 0), -1);
            due(13, "other " + one, m.race(0, 0, one, 0), -1);
        }
    }

    private static void askedAgainAfterChange() {
        OrderModels m = new OrderModels();
        due(2, "thread", m.thread(), 0);
        due(2, "thread", m.thread(), 1);
        for (int v = 1; v <= 3; v++) {
            due(3, "one more", m.action(0, WRITE, 0, 0, v), v);
            for (int model = 0; model < 4; model++) {
                due(6, "the last one", m.outcome(model, 0, 8), v);
                due(9, "the last one", m.ordered(model, 0, 8), v);
            }
            due(12, "no race yet", m.races(), 0);
        }
        due(3, "one more", m.action(1, READ, 0, 0, 0), 1);
        for (int model = 0; model < 4; model++) {
            due(5, "now four", m.runs(model), 4);
            due(10, "now four", m.graphs(model), 4);
        }
        due(12, "now three", m.races(), 3);
    }
}
