/** The boundary cases of RUNS, a sentence of the document each: promises 5, 6, 7 and 11, and the Terms behind them. */
public final class BoundariesOfRuns extends Checks {
    public static void main(String[] args) {
        noSuchModelHasRuns();
        nothingHasOneRun();
        runsGoOnTillNoStepCanBeMade();
        eachOfTheEleven();
        noneSuchOutcome();
        valueOfMinusOneIsNotNone();
        outcomesRiseFromTheFirstOn();
        allIsZeroInEachRun();
        registersAndVariablesGoBeyondNine();
        skipPassesOneTwoThree();
        skipPassesAsFarAsThereAre();
        skipLooksWhetherTheRegisterIsNot();
        passedOverDoNotHappen();
        addIsBothInOne();
        noneSuchStep();
        longestWitness();
        numbersOfSteps();
        leastOfAllRuns();
        leastIsNotShortest();
        bufferIsReadFromItsLast();
        fenceWaitsForItsOwnBufferAlone();
        addWaitsForTheBuffer();
        allBuffersOfTheThreadAreEmpty();
        bufferOfOneVariableKeepsItsOrder();
        beyondTheSame();
        beyondNoSuchModels();
        beyondIsOfOneNotOfTheOther();
        end();
    }

    // ---------------------------------------------------------------- promises 5 and 6

    // Promise 5: "NONE: no such MODEL."
    private static void noSuchModelHasRuns() {
        OrderModels[] all = {new OrderModels(), storeBuffering()};
        for (OrderModels m : all) {
            for (int model : WRONG_MODELS) {
                due(5, "runs(" + model + ")", m.runs(model), -1);
            }
        }
        dueRuns("refused before", all[1], 3, 4, 4, 4);
    }

    // Terms: "RUNS are rows of STEPS till none can be made": of no ACTIONS the row without STEPS is one
    private static void nothingHasOneRun() {
        for (int threads = 0; threads <= 4; threads++) {
            OrderModels m = of(threads);
            dueRuns(threads + " threads", m, 1, 1, 1, 1);
            for (int model = 0; model < 4; model++) {
                dueWitness(m, model, 0);
            }
        }
    }

    // Terms: "till none can be made": what is in a BUFFER when all ACTIONS are done still goes from it
    private static void runsGoOnTillNoStepCanBeMade() {
        OrderModels m = of(4, write(0, 0, 4), write(1, 1, 5), send(3, 2, 1, 6));
        dueRuns("three writers", m, 1, 1, 1, 1);
        dueOutcome("three writers", m, 0, 0, 0, 0, 0, 0, 0, 0, 0, 4, 5, 6);
    }

    // Promise 6: "what = 0 .. 7 REGISTERS, 8 .. 10 VARIABLES"; Terms: "(0, 1 of each ..)"
    private static void eachOfTheEleven() {
        for (int thread = 0; thread < 4; thread++) {
            for (int register = 0; register < 2; register++) {
                for (int x = 0; x < 3; x++) {
                    OrderModels m = of(4, write(thread, x, -7), read(thread, x, register));
                    int[] want = new int[11];
                    want[2 * thread + register] = -7;
                    want[8 + x] = -7;
                    dueOutcome("register " + register + " of thread " + thread + ", variable " + x, m, 0, want);
                }
            }
        }
    }

    // Promise 6: "-1000: none such."
    private static void noneSuchOutcome() {
        OrderModels nothing = new OrderModels();
        OrderModels m = storeBuffering();
        int[] none = {LEAST, -1, MOST};
        for (int model = 0; model < 4; model++) {
            due(6, "behind the only one", nothing.outcome(model, 1, 0), -1000);
            due(6, "the only one, what 11", nothing.outcome(model, 0, 11), -1000);
            due(6, "the last one", m.outcome(model, m.runs(model) - 1, 8), 1);
            due(6, "behind the last one", m.outcome(model, m.runs(model), 8), -1000);
            due(6, "what 10", m.outcome(model, 0, 10), 0);
            due(6, "what 11", m.outcome(model, 0, 11), -1000);
            for (int one : none) {
                due(6, "i " + one, m.outcome(model, one, 0), -1000);
                due(6, "what " + one, m.outcome(model, 0, one), -1000);
            }
        }
        for (int model : WRONG_MODELS) {
            due(6, "model " + model, m.outcome(model, 0, 0), -1000);
            due(6, "model " + model + " of nothing", nothing.outcome(model, 0, 0), -1000);
        }
    }

    // Promise 6: "-1000: none such.": -1 is a value like others
    private static void valueOfMinusOneIsNotNone() {
        OrderModels m = of(1, write(0, 1, -1), read(0, 1, 0));
        dueOutcome("-1", m, 0, -1, 0, 0, 0, 0, 0, 0, 0, 0, -1, 0);
    }

    // Terms: "OUTCOMES are in rising order by these eleven, from the first one on."
    private static void outcomesRiseFromTheFirstOn() {
        // below 0 is ahead of 0, by each of the REGISTERS
        for (int register = 0; register < 6; register++) {
            OrderModels below = of(4, write(3, 0, -1), read(register / 2, 0, register % 2));
            dueValue("below 0", below, 0, register, -1);
            dueValue("below 0", below, 1, register, 0);
            OrderModels above = of(4, write(3, 0, 1), read(register / 2, 0, register % 2));
            dueValue("above 0", above, 0, register, 0);
            dueValue("above 0", above, 1, register, 1);
        }
        // by each of the VARIABLES
        for (int x = 0; x < 3; x++) {
            OrderModels m = of(2, write(0, x, 9), write(1, x, -9));
            dueValue("least first", m, 0, 8 + x, -9);
            dueValue("greatest last", m, 1, 8 + x, 9);
            dueValue("no third", m, 2, 8 + x, -1000);
        }
        // a REGISTER goes ahead of a VARIABLE, and an earlier one of both ahead of a later one
        OrderModels m = of(2, add(0, 0, 0, -5), write(1, 0, 5));
        dueOutcome("the less register", m, 0, 0, 0, 0, 0, 0, 0, 0, 0, 5, 0, 0);
        dueOutcome("the greater register", m, 1, 5, 0, 0, 0, 0, 0, 0, 0, 0, 0, 0);
        OrderModels adds = of(2, add(0, 1, 1, 1), add(1, 1, 0, 1));
        dueOutcome("register 1 of thread 0 is less", adds, 0, 0, 0, 1, 0, 0, 0, 0, 0, 0, 2, 0);
        dueOutcome("register 1 of thread 0 is greater", adds, 1, 0, 1, 0, 0, 0, 0, 0, 0, 0, 2, 0);
        OrderModels fresh = of(4, write(0, 0, 1), write(0, 1, 2), write(1, 0, 3), write(1, 1, 4));
        for (int model = 0; model < 4; model++) {
            due(6, "variable 0 goes ahead", fresh.outcome(model, 0, 8), 1);
            due(6, "then variable 1", fresh.outcome(model, 0, 9), 2);
            int last = fresh.runs(model) - 1;
            due(6, "the last", fresh.outcome(model, last, 8), 3);
            due(6, "of the last", fresh.outcome(model, last, 9), 4);
        }
    }

    // Terms: "all 0 at first": in each RUN and each GRAPH, whatever others before it have read
    private static void allIsZeroInEachRun() {
        OrderModels m = of(2, write(0, 0, 5), send(1, 1, 0, 1), read(1, 0, 0), skip(1, 1, 1, 0), read(1, 0, 1));
        dueRuns("0 0, 0 5, 5 5", m, 3, 3, 3, 3);
        for (int i = 0; i < 3; i++) {
            dueValue("sent before it was read", m, i, 9, 1);
        }
    }

    // Terms: "NUMBERS v are -9 .. 9": what is v alone; sums go up to 63 and down to -63
    private static void registersAndVariablesGoBeyondNine() {
        for (int v = -9; v <= 9; v += 18) {
            OrderModels sends = of(1, add(0, 0, 0, v), add(0, 0, 0, v), add(0, 0, 0, v), add(0, 0, 0, v),
                    add(0, 0, 0, v), send(0, 1, 0, v), send(0, 2, 0, 0));
            dueOutcome("sums of five", sends, 0, 4 * v, 0, 0, 0, 0, 0, 0, 0, 5 * v, 5 * v, 4 * v);
            OrderModels adds = of(2, add(0, 0, 0, v), add(1, 0, 0, v), add(0, 0, 0, v), add(1, 0, 0, v),
                    add(0, 0, 0, v), add(1, 0, 0, v), add(0, 0, 0, v));
            for (int model = 0; model < 4; model++) {
                for (int i = 0; i < adds.runs(model); i++) {
                    due(6, "the sum of all", adds.outcome(model, i, 8), 7 * v);
                    due(9, "the sum of all", adds.ordered(model, i, 8), 7 * v);
                }
                // thread 0 is last, or thread 1 is
                int least = adds.outcome(model, 0, 0);
                int most = adds.outcome(model, adds.runs(model) - 1, 0);
                due(6, "least of thread 0", least, v > 0 ? 3 * v : 6 * v);
                due(6, "greatest of thread 0", most, v > 0 ? 6 * v : 3 * v);
            }
        }
    }

    // ---------------------------------------------------------------- kinds of actions

    // Terms: "the next 1 .. 3 ACTIONS of the THREAD .. are passed over"
    private static void skipPassesOneTwoThree() {
        for (int n = 1; n <= 3; n++) {
            OrderModels m = of(1, skip(0, n, 0, 1), write(0, 0, 1), add(0, 1, 1, 2), write(0, 2, 3), add(0, 2, 1, 4));
            dueRuns("passes " + n, m, 1, 1, 1, 1);
            dueGraphs("passes " + n, m, 1, 1, 1, 1);
            int third = n < 3 ? 3 : 0;
            dueOutcome("passes " + n, m, 0, 0, third, 0, 0, 0, 0, 0, 0, 0, n < 2 ? 2 : 0, third + 4);
        }
    }

    // Terms: "(as far as there are)"
    private static void skipPassesAsFarAsThereAre() {
        for (int n = 1; n <= 3; n++) {
            // none behind it, then fewer than n, then n
            for (int behind = 0; behind <= n; behind++) {
                OrderModels m = of(2, write(0, 2, 5), skip(0, n, 1, -9), write(1, 1, 6));
                for (int k = 0; k < behind; k++) {
                    due(3, "one behind the skip", m.action(0, WRITE, 0, 0, 7), 3 + k);
                }
                dueRuns("passes the end", m, 1, 1, 1, 1);
                dueOutcome("passes the end", m, 0, 0, 0, 0, 0, 0, 0, 0, 0, 0, 6, 5);
                dueWitness(m, 0, 0, 0, 0, 100);
            }
        }
        OrderModels seventh = of(1, fence(0), fence(0), fence(0), fence(0), fence(0), fence(0), skip(0, 3, 0, 9));
        dueWitness(seventh, 3, 0, 0, 0, 0, 0, 0, 0, 0);
    }

    // Terms: "SKIP: if a REGISTER is not v": of its own THREAD, that REGISTER of both
    private static void skipLooksWhetherTheRegisterIsNot() {
        for (int v = -9; v <= 9; v += 9) {
            for (int other = v - 1; other <= v + 1; other++) {
                if (other < -9 || other > 9) {
                    continue;
                }
                OrderModels m = of(2, write(0, 0, v), read(0, 0, 1), skip(0, 1, 1, other), write(0, 1, 3));
                dueValue("register " + v + ", skip " + other, m, 0, 9, v == other ? 3 : 0);
            }
        }
        OrderModels otherRegister = of(1, write(0, 0, 4), read(0, 0, 0), skip(0, 1, 1, 4), write(0, 1, 3));
        dueValue("register 0 is 4, register 1 is not", otherRegister, 0, 9, 0);
        OrderModels otherThread = of(2, write(0, 0, 4), read(0, 0, 0), skip(1, 1, 0, 4), write(1, 1, 3));
        dueValue("thread 0 has it, thread 1 has not", otherThread, 0, 9, 0);
    }

    // Terms: "passed over: they do not happen"
    private static void passedOverDoNotHappen() {
        OrderModels reads = of(1, write(0, 0, 4), skip(0, 2, 0, 1), read(0, 0, 0), add(0, 0, 1, 1));
        dueOutcome("a read and an add", reads, 0, 0, 0, 0, 0, 0, 0, 0, 0, 4, 0, 0);
        OrderModels skips = of(1, skip(0, 1, 0, 1), skip(0, 3, 0, 1), write(0, 0, 4), write(0, 1, 5));
        dueOutcome("a skip", skips, 0, 0, 0, 0, 0, 0, 0, 0, 0, 4, 5, 0);
        // a fence that is passed over puts nothing in order
        OrderModels fences = of(2, write(0, 0, 1), skip(0, 1, 0, 1), fence(0), read(0, 1, 0), write(1, 1, 1), fence(1),
                read(1, 0, 0));
        dueRuns("a fence", fences, 3, 4, 4, 4);
    }

    // Terms: "ADD: a REGISTER becomes a VARIABLE, that then the REGISTER and v, both in one."
    private static void addIsBothInOne() {
        OrderModels m = of(3, add(0, 0, 0, 1), add(1, 0, 1, 1), add(2, 0, 0, 1));
        dueRuns("three adds", m, 6, 6, 6, 6);
        for (int i = 0; i < 6; i++) {
            dueValue("none is lost", m, i, 8, 3);
        }
        // the same by a READ and a SEND is not
        OrderModels parts = of(2, read(0, 0, 0), send(0, 0, 0, 1), read(1, 0, 0), send(1, 0, 0, 1));
        dueRuns("read and send", parts, 3, 3, 3, 3);
        dueOutcome("one is lost", parts, 0, 0, 0, 0, 0, 0, 0, 0, 0, 1, 0, 0);
    }

    // ---------------------------------------------------------------- promise 7

    // Promise 7: "NONE: none such."
    private static void noneSuchStep() {
        OrderModels nothing = new OrderModels();
        OrderModels m = storeBuffering();
        int[] none = {LEAST, -1, MOST};
        int[] lengths = {4, 6, 6, 4};
        for (int model = 0; model < 4; model++) {
            due(7, "of a run without steps", nothing.witness(model, 0, 0), -1);
            due(7, "behind the only one", nothing.witness(model, 1, 0), -1);
            due(7, "behind the last one", m.witness(model, m.runs(model), 0), -1);
            for (int i = 0; i < m.runs(model); i++) {
                int last = m.witness(model, i, lengths[model] - 1);
                due(7, "the last step is there", last >= 0 ? 1 : 0, 1);
                due(7, "behind the last step", m.witness(model, i, lengths[model]), -1);
            }
            for (int one : none) {
                due(7, "i " + one, m.witness(model, one, 0), -1);
                due(7, "k " + one, m.witness(model, 0, one), -1);
            }
        }
        for (int model : WRONG_MODELS) {
            due(7, "model " + model, m.witness(model, 0, 0), -1);
        }
    }

    // Promise 7: "The number of STEP k": with BUFFERS 7 WRITES have 14 STEPS, the most that there are
    private static void longestWitness() {
        OrderModels m = of(1, write(0, 2, 1), write(0, 2, 2), write(0, 2, 3), write(0, 2, 4), write(0, 2, 5),
                send(0, 2, 0, 6), write(0, 2, 7));
        dueWitness(m, 0, 0, 0, 0, 0, 0, 0, 0, 0);
        dueWitness(m, 1, 0, 0, 0, 0, 0, 0, 0, 0, 1, 1, 1, 1, 1, 1, 1);
        dueWitness(m, 2, 0, 0, 0, 0, 0, 0, 0, 0, 3, 3, 3, 3, 3, 3, 3);
        dueWitness(m, 3, 0, 1, 2, 3, 4, 5, 6, 7);
        due(7, "STEP 14 of 0 .. 13", m.witness(1, 0, 14), -1);
        OrderModels many = of(4, write(0, 0, 1), write(1, 1, 1), write(2, 2, 1), write(3, 0, 1), write(0, 1, 1),
                write(1, 2, 1), write(2, 0, 1));
        dueRuns("one value", many, 1, 1, 1, 1);
        dueWitness(many, 1, 0, 0, 0, 1, 1, 100, 100, 101, 101, 200, 200, 201, 201, 300, 301);
        dueWitness(many, 2, 0, 0, 0, 1, 2, 100, 100, 102, 103, 200, 200, 201, 203, 300, 301);
    }

    // Terms: "a STEP has a number, 100 times its THREAD and c"; "c 1: the first one goes"; "c 1 + x"
    private static void numbersOfSteps() {
        for (int thread = 0; thread < 4; thread++) {
            for (int x = 0; x < 3; x++) {
                OrderModels m = of(4, write(thread, x, 1));
                dueWitness(m, 0, 0, 100 * thread);
                dueWitness(m, 1, 0, 100 * thread, 100 * thread + 1);
                dueWitness(m, 2, 0, 100 * thread, 100 * thread + 1 + x);
                dueWitness(m, 3, 0, 100 * thread + 1);
            }
        }
    }

    // Promise 7: "of all RUNS with it that whose numbers, from the first STEP on, are least."
    private static void leastOfAllRuns() {
        // 24 orders lead to the one outcome
        OrderModels reads = of(4, read(3, 0, 0), read(2, 0, 0), read(1, 0, 0), read(0, 0, 0));
        for (int model = 0; model < 4; model++) {
            due(7, "one outcome", reads.runs(model), 1);
            dueWitness(reads, model, 0, 0, 100, 200, 300);
        }
        // the first step counts most: 0 ahead of 100, though 100 would come later anyhow
        OrderModels m = of(2, write(0, 0, 1), read(0, 1, 0), write(1, 1, 1), read(1, 0, 0));
        dueWitness(m, 0, 2, 0, 100, 0, 100);
        // a write may leave its buffer at once or last: the next action has the less number
        OrderModels one = of(1, write(0, 0, 1), read(0, 1, 0));
        dueWitness(one, 1, 0, 0, 0, 1);
        dueWitness(one, 2, 0, 0, 0, 1);
        // of two places in the row that lead to one outcome the first
        OrderModels same = of(2, write(0, 0, 1), write(1, 0, 1));
        dueWitness(same, 3, 0, 1, 101);
    }

    // Promise 7: "whose numbers, from the first STEP on, are least": not the run with the fewest
    private static void leastIsNotShortest() {
        // 100, 0, 0, 0 leads there too: what is read passes the fence over
        OrderModels m = of(2, read(0, 0, 0), skip(0, 1, 0, 0), fence(0), read(0, 1, 0), write(1, 0, 1));
        dueRuns("one outcome", m, 1, 1, 1, 1);
        dueWitness(m, 0, 0, 0, 0, 0, 0, 100);
        dueWitness(m, 1, 0, 0, 0, 0, 0, 100, 101);
        dueWitness(m, 3, 0, 0, 0, 0, 0, 101);
    }

    // ---------------------------------------------------------------- models 1 and 2

    // Terms, MODEL 1: "READ: of the last one of the VARIABLE in its BUFFER, without such as the VARIABLE is"
    private static void bufferIsReadFromItsLast() {
        OrderModels last = of(1, write(0, 0, 1), write(0, 0, 2), write(0, 1, 3), read(0, 0, 0), read(0, 2, 1));
        dueRuns("one thread", last, 1, 1, 1, 1);
        dueOutcome("the last one of the variable", last, 0, 2, 0, 0, 0, 0, 0, 0, 0, 2, 3, 0);
        // what is in its buffer is read even when the variable has another value meanwhile
        OrderModels own = of(2, write(0, 0, 1), read(0, 0, 0), write(1, 0, 2));
        dueRuns("own or other", own, 3, 3, 3, 3);
        dueValue("own, own is last", own, 0, 0, 1);
        dueValue("own, own is last", own, 0, 8, 1);
        dueValue("own, the other is last", own, 1, 0, 1);
        dueValue("own, the other is last", own, 1, 8, 2);
        dueValue("the other is read and last", own, 2, 0, 2);
        dueValue("the other is read and last", own, 2, 8, 2);
        // the variable as it is, while another one of its own waits
        OrderModels without = of(2, write(0, 1, 9), read(0, 0, 0), write(1, 0, 2));
        dueRuns("without such", without, 2, 2, 2, 2);
        dueValue("without such", without, 0, 0, 0);
        dueValue("without such", without, 1, 0, 2);
    }

    // Terms, MODEL 1: "FENCE .. only when its BUFFER is empty": its own, whatever another THREAD'S holds
    private static void fenceWaitsForItsOwnBufferAlone() {
        OrderModels oneFence = of(2, write(0, 0, 1), read(0, 1, 0), write(1, 1, 1), fence(1), read(1, 0, 0));
        dueRuns("one thread is fenced", oneFence, 3, 4, 4, 4);
        dueWitness(oneFence, 1, 0, 0, 0, 100, 101, 100, 100, 1);
        dueWitness(oneFence, 2, 0, 0, 0, 100, 102, 100, 100, 1);
        OrderModels alone = of(1, write(0, 0, 1), fence(0));
        dueWitness(alone, 0, 0, 0, 0);
        dueWitness(alone, 1, 0, 0, 1, 0);
        dueWitness(alone, 2, 0, 0, 1, 0);
        OrderModels empty = of(1, fence(0), write(0, 0, 1));
        dueWitness(empty, 1, 0, 0, 0, 1);
        dueRuns("both are fenced", storeBufferingFenced(), 3, 3, 3, 3);
    }

    // Terms, MODEL 1: "FENCE, ADD: only when its BUFFER is empty (ADD on the VARIABLE itself)"
    private static void addWaitsForTheBuffer() {
        OrderModels m = of(2, write(0, 0, 1), add(0, 2, 1, 0), read(0, 1, 0), write(1, 1, 1), add(1, 2, 1, 0),
                read(1, 0, 0));
        dueRuns("an add is as good as a fence", m, 3, 3, 3, 3);
        OrderModels alone = of(1, write(0, 1, 1), add(0, 0, 0, 2));
        dueWitness(alone, 1, 0, 0, 1, 0);
        dueWitness(alone, 2, 0, 0, 2, 0);
        // what an ADD wrote is in no BUFFER
        OrderModels itself = of(1, add(0, 0, 0, 2), add(0, 1, 0, 2));
        dueWitness(itself, 1, 0, 0, 0);
        dueWitness(itself, 2, 0, 0, 0);
    }

    // Terms, MODEL 2: "(FENCE, ADD: when all are empty)"
    private static void allBuffersOfTheThreadAreEmpty() {
        dueRuns("two writes", messagePassing(), 3, 3, 4, 3);
        OrderModels fenced = of(2, write(0, 0, 1), fence(0), write(0, 1, 1), read(1, 1, 0), read(1, 0, 1));
        dueRuns("a fence between", fenced, 3, 3, 3, 3);
        OrderModels added = of(2, write(0, 0, 1), add(0, 1, 0, 1), read(1, 1, 0), read(1, 0, 1));
        dueRuns("a write and an add", added, 3, 3, 3, 3);
        OrderModels first = of(2, add(0, 0, 0, 1), write(0, 1, 1), read(1, 1, 0), read(1, 0, 1));
        dueRuns("an add and a write", first, 3, 3, 3, 3);
        OrderModels all = of(1, write(0, 0, 1), write(0, 1, 2), write(0, 2, 3), fence(0));
        dueWitness(all, 2, 0, 0, 0, 0, 1, 2, 3, 0);
    }

    // Terms, MODEL 2: "the first one of that for VARIABLE x goes"
    private static void bufferOfOneVariableKeepsItsOrder() {
        OrderModels m = of(2, write(0, 0, 1), write(0, 0, 2), read(1, 0, 0), read(1, 0, 1));
        dueRuns("two writes, two reads", m, 6, 6, 6, 6);
        int[] first = {0, 0, 0, 1, 1, 2};
        int[] second = {0, 1, 2, 1, 2, 2};
        for (int i = 0; i < 6; i++) {
            dueOutcome("never 2, then 1", m, i, 0, 0, first[i], second[i], 0, 0, 0, 0, 2, 0, 0);
        }
    }

    // ---------------------------------------------------------------- promise 11

    // Promise 11: "(0 when it is the same)"
    private static void beyondTheSame() {
        OrderModels[] all = {new OrderModels(), storeBuffering(), messagePassing(), independentReads()};
        for (OrderModels m : all) {
            for (int model = 0; model < 4; model++) {
                due(11, "beyond(" + model + ", " + model + ")", m.beyond(model, model), 0);
            }
        }
    }

    // Promise 11: "NONE: no such ones.": one of them, both, and one twice
    private static void beyondNoSuchModels() {
        OrderModels[] all = {new OrderModels(), storeBuffering()};
        for (OrderModels m : all) {
            for (int wrong : WRONG_MODELS) {
                for (int model = 0; model < 4; model++) {
                    due(11, "beyond(" + wrong + ", " + model + ")", m.beyond(wrong, model), -1);
                    due(11, "beyond(" + model + ", " + wrong + ")", m.beyond(model, wrong), -1);
                }
                for (int other : WRONG_MODELS) {
                    due(11, "beyond(" + wrong + ", " + other + ")", m.beyond(wrong, other), -1);
                }
            }
        }
        due(11, "beyond(1, 0) behind what was refused", all[1].beyond(1, 0), 1);
    }

    // Promise 11: "How many of the OUTCOMES by RUNS of one MODEL are not of the other one"
    private static void beyondIsOfOneNotOfTheOther() {
        OrderModels nothing = new OrderModels();
        OrderModels buffering = storeBuffering();
        OrderModels passing = messagePassing();
        OrderModels reads = independentReads();
        // in turn is within all, one buffer within a buffer for each variable; the rest by the program
        int[][] ofBuffering = {{0, 0, 0, 0}, {1, 0, 0, 0}, {1, 0, 0, 0}, {1, 0, 0, 0}};
        int[][] ofPassing = {{0, 0, 0, 0}, {0, 0, 0, 0}, {1, 1, 0, 1}, {0, 0, 0, 0}};
        int[][] ofReads = {{0, 0, 0, 0}, {0, 0, 0, 0}, {0, 0, 0, 0}, {1, 1, 1, 0}};
        for (int model = 0; model < 4; model++) {
            for (int other = 0; other < 4; other++) {
                String call = "beyond(" + model + ", " + other + ")";
                due(11, "nothing: " + call, nothing.beyond(model, other), 0);
                due(11, "buffering: " + call, buffering.beyond(model, other), ofBuffering[model][other]);
                due(11, "passing: " + call, passing.beyond(model, other), ofPassing[model][other]);
                due(11, "reads: " + call, reads.beyond(model, other), ofReads[model][other]);
            }
        }
        // each of two has what the other has not: that the early write to variable 1 is last though thread 1 has read
        // what came behind it, and that thread 2 is last though its fence has shown it nothing
        OrderModels both = of(3, write(0, 1, 3), write(0, 0, 1), read(1, 0, 0), write(1, 1, 1), write(2, 1, 2),
                fence(2), read(2, 0, 0));
        dueRuns("each beyond the other", both, 9, 9, 11, 10);
        due(11, "beyond(2, 3)", both.beyond(2, 3), 2);
        due(11, "beyond(3, 2)", both.beyond(3, 2), 1);
        due(11, "beyond(2, 0)", both.beyond(2, 0), 2);
        due(11, "beyond(3, 1)", both.beyond(3, 1), 1);
    }
}
