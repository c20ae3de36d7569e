/** The boundary cases of promises 1 to 4, a sentence of the document each: what is empty, full or refused. */
public final class BoundariesOfCalls extends Checks {
    private static final int[] VARIABLE_KINDS = {READ, WRITE, SEND, ADD};
    private static final int[] ALL_KINDS = {READ, WRITE, SEND, ADD, FENCE, SKIP};

    public static void main(String[] args) {
        newObjectHasNoThreads();
        newObjectsShareNothing();
        allIsZeroAtFirst();
        threadTellsItsNumber();
        fifthThreadIsRefused();
        refusedThreadChangesNothing();
        threadWhenSevenActionsAreThere();
        actionTellsHowManyTheThreadHas();
        noSuchThread();
        noSuchKind();
        variableIsZeroToTwo();
        skipPassesOneToThree();
        fenceHasNoVariable();
        registerIsZeroOrOne();
        writeAndFenceHaveNoRegister();
        numberIsMinusNineToNine();
        readAndFenceHaveNoNumber();
        eighthActionOfOneThread();
        eighthActionTogether();
        refusedActionsTakeNoRoom();
        refusedActionsChangeNoAnswer();
        clearTellsHowManyThreadsThereWere();
        clearTakesTheActionsToo();
        clearTakesAllAnswers();
        threadsBeginAnewAfterClear();
        fiveHundredAndTwelfthCall();
        end();
    }

    /** The least that fits for each kind, in the form of action(). */
    private static int tellKind(OrderModels m, int thread, int kind) {
        return m.action(thread, kind, kind == SKIP ? 1 : 0, 0, 0);
    }

    private static OrderModels withThreads(int threads) {
        return of(threads);
    }

    /** An action with these arguments on a new object with one thread; whether it is taken must show in the next. */
    private static void dueTaken(boolean taken, int kind, int x, int register, int v) {
        OrderModels m = withThreads(1);
        String call = "action(0, " + kind + ", " + x + ", " + register + ", " + v + ")";
        due(3, call, m.action(0, kind, x, register, v), taken ? 1 : -1);
        due(3, "one more after " + call, m.action(0, FENCE, 0, 0, 0), taken ? 2 : 1);
    }

    // ---------------------------------------------------------------- promise 1

    // Promise 1: "No THREADS."
    private static void newObjectHasNoThreads() {
        due(1, "clear()", new OrderModels().clear(), 0);
        due(1, "thread()", new OrderModels().thread(), 0);
        for (int kind : ALL_KINDS) {
            due(1, "an action of no thread", tellKind(new OrderModels(), 0, kind), -1);
        }
        due(1, "race(0, 0, 1, 0)", new OrderModels().race(0, 0, 1, 0), -1);
        due(1, "races()", new OrderModels().races(), 0);
    }

    // Promise 1: "No THREADS.": also while another object is full
    private static void newObjectsShareNothing() {
        OrderModels full = of(4, write(0, 0, 1), write(1, 0, 2), write(2, 0, 3), write(3, 0, 4), write(0, 1, 5),
                write(1, 1, 6), write(2, 1, 7));
        int outcomes = full.runs(0);
        OrderModels m = new OrderModels();
        due(1, "runs(0) of the new one", m.runs(0), 1);
        due(1, "thread() of the new one", m.thread(), 0);
        due(1, "action() of the new one", m.action(0, WRITE, 0, 0, 9), 1);
        due(1, "outcome() of the new one", m.outcome(0, 0, 8), 9);
        due(1, "runs(0) of the full one", full.runs(0), outcomes);
        due(1, "clear() of the full one", full.clear(), 4);
        due(1, "clear() of the new one", m.clear(), 1);
    }

    // Terms: "all 0 at first"; "of a THREAD that there is not 0"
    private static void allIsZeroAtFirst() {
        for (int threads = 0; threads <= 4; threads++) {
            OrderModels m = withThreads(threads);
            dueRuns(threads + " threads without actions", m, 1, 1, 1, 1);
            dueOutcome(threads + " threads without actions", m, 0, 0, 0, 0, 0, 0, 0, 0, 0, 0, 0, 0);
        }
    }

    // ---------------------------------------------------------------- promise 2

    // Promise 2: "A THREAD more: its number."
    private static void threadTellsItsNumber() {
        OrderModels m = new OrderModels();
        due(2, "first thread()", m.thread(), 0);
        due(2, "action between", m.action(0, WRITE, 0, 0, 1), 1);
        due(2, "second thread()", m.thread(), 1);
        due(2, "third thread()", m.thread(), 2);
        due(2, "fourth thread()", m.thread(), 3);
    }

    // Promise 2: "NONE: 4 are there."
    private static void fifthThreadIsRefused() {
        OrderModels m = withThreads(4);
        for (int n = 0; n < 5; n++) {
            due(2, "thread() when 4 are there", m.thread(), -1);
        }
    }

    // Terms: "What is refused changes nothing.": of promise 2
    private static void refusedThreadChangesNothing() {
        OrderModels m = of(4, write(3, 0, 5), read(0, 0, 1));
        due(2, "runs(0) before", m.runs(0), 2);
        due(2, "races() before", m.races(), 1);
        due(2, "thread() when 4 are there", m.thread(), -1);
        due(2, "runs(0) behind", m.runs(0), 2);
        due(2, "races() behind", m.races(), 1);
        due(2, "action of the refused thread", m.action(4, WRITE, 0, 0, 1), -1);
        due(2, "action of the last thread", m.action(3, WRITE, 0, 0, 1), 2);
        due(2, "clear() tells 4, not 5", m.clear(), 4);
    }

    // Terms: "7 at most together" is said of ACTIONS: a THREAD more is no ACTION
    private static void threadWhenSevenActionsAreThere() {
        OrderModels m = of(1, fence(0), fence(0), fence(0), fence(0), fence(0), fence(0), write(0, 2, 3));
        due(2, "runs(1) before", m.runs(1), 1);
        due(2, "second thread()", m.thread(), 1);
        due(2, "third thread()", m.thread(), 2);
        due(2, "fourth thread()", m.thread(), 3);
        due(2, "fifth thread()", m.thread(), -1);
        dueValue("threads without actions change no outcome", m, 0, 10, 3);
    }

    // ---------------------------------------------------------------- promise 3

    // Promise 3: "An ACTION more of a THREAD: how many it has.": it, not all together
    private static void actionTellsHowManyTheThreadHas() {
        OrderModels m = withThreads(4);
        due(3, "first of thread 0", m.action(0, READ, 0, 0, 0), 1);
        due(3, "first of thread 3", m.action(3, WRITE, 0, 0, 0), 1);
        due(3, "second of thread 3", m.action(3, SEND, 0, 0, 0), 2);
        due(3, "first of thread 1", m.action(1, ADD, 0, 0, 0), 1);
        due(3, "second of thread 0", m.action(0, FENCE, 0, 0, 0), 2);
        due(3, "third of thread 3", m.action(3, SKIP, 1, 0, 0), 3);
        due(3, "first of thread 2", m.action(2, FENCE, 0, 0, 0), 1);
    }

    // Promise 3: "NONE: no such THREAD"
    private static void noSuchThread() {
        for (int threads = 0; threads <= 4; threads++) {
            OrderModels m = withThreads(threads);
            int[] none = {LEAST, -1, threads, 4, 5, MOST};
            for (int thread : none) {
                for (int kind : ALL_KINDS) {
                    due(3, "thread " + thread + " of " + threads, tellKind(m, thread, kind), -1);
                }
            }
            if (threads > 0) {
                due(3, "the last thread", m.action(threads - 1, FENCE, 0, 0, 0), 1);
            }
        }
    }

    // Promise 3: "NONE: no such .. kind": they are 0 .. 5
    private static void noSuchKind() {
        int[] none = {LEAST, -1, 6, 7, MOST};
        for (int kind : none) {
            dueTaken(false, kind, 0, 0, 0);
            dueTaken(false, kind, 1, 0, 0);
        }
        for (int kind : ALL_KINDS) {
            dueTaken(true, kind, kind == SKIP ? 1 : 0, 0, 0);
        }
    }

    // Promise 3: "x is its VARIABLE"; Terms: "VARIABLES 0 .. 2"
    private static void variableIsZeroToTwo() {
        for (int kind : VARIABLE_KINDS) {
            for (int x = 0; x <= 2; x++) {
                dueTaken(true, kind, x, 0, 0);
            }
            dueTaken(false, kind, -1, 0, 0);
            dueTaken(false, kind, 3, 0, 0);
            dueTaken(false, kind, LEAST, 0, 0);
            dueTaken(false, kind, MOST, 0, 0);
        }
    }

    // Promise 3: "of SKIP how many are passed over, 1 .. 3"
    private static void skipPassesOneToThree() {
        for (int x = 1; x <= 3; x++) {
            dueTaken(true, SKIP, x, 0, 0);
        }
        dueTaken(false, SKIP, 0, 0, 0);
        dueTaken(false, SKIP, 4, 0, 0);
        dueTaken(false, SKIP, -1, 0, 0);
        dueTaken(false, SKIP, LEAST, 0, 0);
        dueTaken(false, SKIP, MOST, 0, 0);
    }

    // Promise 3: "of FENCE 0 .. what is 0 must be so": its x
    private static void fenceHasNoVariable() {
        dueTaken(true, FENCE, 0, 0, 0);
        int[] wrong = {LEAST, -1, 1, 2, 3, MOST};
        for (int x : wrong) {
            dueTaken(false, FENCE, x, 0, 0);
        }
    }

    // Promise 3: "register 0, 1"
    private static void registerIsZeroOrOne() {
        int[] kinds = {READ, SEND, ADD, SKIP};
        int[] wrong = {LEAST, -1, 2, 3, MOST};
        for (int kind : kinds) {
            dueTaken(true, kind, 1, 0, 0);
            dueTaken(true, kind, 1, 1, 0);
            for (int register : wrong) {
                dueTaken(false, kind, 1, register, 0);
            }
        }
    }

    // Promise 3: "(of WRITE, FENCE 0) .. what is 0 must be so": their register
    private static void writeAndFenceHaveNoRegister() {
        dueTaken(true, WRITE, 0, 0, 1);
        int[] wrong = {LEAST, -1, 1, 2, MOST};
        for (int register : wrong) {
            dueTaken(false, WRITE, 0, register, 1);
            dueTaken(false, FENCE, 0, register, 0);
        }
    }

    // Promise 3: "NONE: no such .. v"; Terms: "NUMBERS v are -9 .. 9"
    private static void numberIsMinusNineToNine() {
        int[] kinds = {WRITE, SEND, ADD, SKIP};
        int[] wrong = {LEAST, -10, 10, MOST};
        for (int kind : kinds) {
            for (int v = -9; v <= 9; v++) {
                dueTaken(true, kind, 1, 0, v);
            }
            for (int v : wrong) {
                dueTaken(false, kind, 1, 0, v);
            }
        }
    }

    // Promise 3: "v (of READ, FENCE 0); what is 0 must be so"
    private static void readAndFenceHaveNoNumber() {
        int[] wrong = {LEAST, -9, -1, 1, 9, MOST};
        for (int v : wrong) {
            dueTaken(false, READ, 0, 0, v);
            dueTaken(false, READ, 2, 1, v);
            dueTaken(false, FENCE, 0, 0, v);
        }
    }

    // Promise 3: "NONE: .. 7 are there.": all of one THREAD
    private static void eighthActionOfOneThread() {
        for (int kind : ALL_KINDS) {
            OrderModels m = withThreads(2);
            for (int n = 1; n <= 7; n++) {
                due(3, "action " + n, tellKind(m, 0, kind), n);
            }
            for (int more : ALL_KINDS) {
                due(3, "an eighth of the full thread", tellKind(m, 0, more), -1);
                due(3, "an eighth of the empty thread", tellKind(m, 1, more), -1);
            }
        }
    }

    // Promise 3: "NONE: .. 7 are there."; Terms: "7 at most together"
    private static void eighthActionTogether() {
        OrderModels m = of(4, write(0, 0, 1), write(1, 0, 2), write(2, 0, 3), write(3, 0, 4), write(0, 1, 5),
                write(1, 1, 6));
        due(3, "the seventh together", m.action(3, WRITE, 1, 0, 7), 2);
        int graphs = m.graphs(3);
        for (int thread = 0; thread < 4; thread++) {
            due(3, "the eighth together", m.action(thread, WRITE, 2, 0, 8), -1);
        }
        due(3, "graphs(3) as before", m.graphs(3), graphs);
        for (int i = 0; i < m.runs(0); i++) {
            due(3, "variable 2 of outcome " + i, m.outcome(0, i, 10), 0);
        }
    }

    // Terms: "What is refused changes nothing.": refused ACTIONS are none of the 7
    private static void refusedActionsTakeNoRoom() {
        OrderModels m = withThreads(1);
        for (int n = 1; n <= 7; n++) {
            due(3, "a kind that is none", m.action(0, 6, 0, 0, 0), -1);
            due(3, "a thread that is none", m.action(1, WRITE, 0, 0, 0), -1);
            due(3, "a number that is none", m.action(0, WRITE, 0, 0, 10), -1);
            due(3, "action " + n, m.action(0, WRITE, 0, 0, n), n);
        }
        due(3, "the eighth", m.action(0, WRITE, 0, 0, 8), -1);
        dueValue("the seventh is last", m, 0, 8, 7);
    }

    // Terms: "What is refused changes nothing.": of promise 3, with answers told before and behind
    private static void refusedActionsChangeNoAnswer() {
        OrderModels asked = storeBuffering();
        OrderModels notAsked = storeBuffering();
        dueRuns("before", asked, 3, 4, 4, 4);
        OrderModels[] both = {asked, notAsked};
        for (OrderModels m : both) {
            due(3, "no such thread", m.action(2, WRITE, 0, 0, 9), -1);
            due(3, "no such kind", m.action(0, 6, 0, 0, 9), -1);
            due(3, "no such x", m.action(0, WRITE, 3, 0, 9), -1);
            due(3, "no such register", m.action(1, ADD, 0, 2, 9), -1);
            due(3, "no such v", m.action(1, SEND, 0, 0, -10), -1);
            dueRuns("behind", m, 3, 4, 4, 4);
            dueGraphs("behind", m, 3, 4, 4, 4);
            dueWitness(m, 0, 2, 0, 100, 0, 100);
            due(3, "races() behind", m.races(), 2);
            due(3, "no third action of thread 0", m.race(0, 2, 1, 0), -1);
            due(3, "clear() behind", m.clear(), 2);
        }
    }

    // ---------------------------------------------------------------- promise 4

    // Promise 4: "No THREADS: how many there were.": 0 .. 4
    private static void clearTellsHowManyThreadsThereWere() {
        OrderModels m = new OrderModels();
        for (int threads = 0; threads <= 4; threads++) {
            for (int t = 0; t < threads; t++) {
                due(4, "thread()", m.thread(), t);
            }
            due(4, "clear() of " + threads, m.clear(), threads);
            due(4, "clear() once more", m.clear(), 0);
        }
    }

    // Promise 4: "No THREADS": their ACTIONS are gone with them, and there is room for 7 again
    private static void clearTakesTheActionsToo() {
        OrderModels m = of(4, write(0, 0, 1), write(1, 0, 2), write(2, 0, 3), write(3, 0, 4), add(0, 1, 1, 5),
                add(1, 1, 1, 6), add(2, 2, 1, 7));
        due(4, "clear() of a full one", m.clear(), 4);
        for (int kind : ALL_KINDS) {
            due(4, "an action of no thread", tellKind(m, 0, kind), -1);
        }
        tell(m, 2, write(1, 0, 1), write(1, 1, 2), write(1, 2, 3), write(1, 0, 4), write(1, 1, 5), write(1, 2, 6),
                read(1, 2, 1));
        due(4, "the eighth again", m.action(0, FENCE, 0, 0, 0), -1);
        dueRuns("one thread alone", m, 1, 1, 1, 1);
        dueOutcome("one thread alone", m, 0, 0, 0, 0, 6, 0, 0, 0, 0, 4, 5, 6);
        due(4, "no action of thread 0", m.race(0, 0, 1, 0), -1);
    }

    // Promise 4: "No THREADS": what was told of them is not told again
    private static void clearTakesAllAnswers() {
        OrderModels m = independentReads();
        dueRuns("before", m, 15, 15, 15, 16);
        dueGraphs("before", m, 15, 15, 15, 16);
        due(4, "races() before", m.races(), 4);
        due(4, "clear()", m.clear(), 4);
        dueRuns("behind", m, 1, 1, 1, 1);
        dueGraphs("behind", m, 1, 1, 1, 1);
        dueOutcome("behind", m, 0, 0, 0, 0, 0, 0, 0, 0, 0, 0, 0, 0);
        dueValue("behind, the second", m, 1, 0, -1000);
        due(4, "witness() behind", m.witness(0, 0, 0), -1);
        due(4, "beyond() behind", m.beyond(3, 0), 0);
        due(4, "races() behind", m.races(), 0);
        due(4, "race() behind", m.race(0, 0, 2, 0), -1);
    }

    // Promise 4: "No THREADS": the next number is 0 again, and 4 are free
    private static void threadsBeginAnewAfterClear() {
        OrderModels m = withThreads(4);
        due(4, "a fifth", m.thread(), -1);
        due(4, "clear()", m.clear(), 4);
        for (int t = 0; t < 4; t++) {
            due(4, "thread() after clear()", m.thread(), t);
        }
        due(4, "a fifth after clear()", m.thread(), -1);
    }

    // What it is: "An object is used for at most 512 calls": the 512th is answered like the first
    private static void fiveHundredAndTwelfthCall() {
        OrderModels m = new OrderModels();
        int calls = 0;
        for (int round = 0; round < 42; round++) {
            m.clear();
            m.thread();
            m.thread();
            m.action(0, WRITE, 0, 0, 1);
            m.action(0, READ, 1, 0, 0);
            m.action(1, WRITE, 1, 0, 1);
            m.action(1, READ, 0, 0, 0);
            due(5, "runs(0) in round " + round, m.runs(0), 3);
            due(5, "runs(1) in round " + round, m.runs(1), 4);
            due(10, "graphs(2) in round " + round, m.graphs(2), 4);
            due(11, "beyond(3, 0) in round " + round, m.beyond(3, 0), 1);
            due(12, "races() in round " + round, m.races(), 2);
            calls += 12;
        }
        for (int k = 0; k < 4; k++) {
            due(7, "witness(0, 2, " + k + ")", m.witness(0, 2, k), 100 * (k % 2));
            calls++;
        }
        due(3, "action", m.action(1, FENCE, 0, 0, 0), 3);
        due(5, "runs(3)", m.runs(3), 4);
        due(4, "clear()", m.clear(), 2);
        due(2, "thread()", m.thread(), 0);
        calls += 4;
        due(2, "calls so far", calls, 512);
    }
}
