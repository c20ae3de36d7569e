import java.util.Arrays;

/** What the tests by hand share: how a program is told, and how an answer is held against the one that is due. */
abstract class Checks {
    static final int READ = 0, WRITE = 1, SEND = 2, ADD = 3, FENCE = 4, SKIP = 5;
    static final int LEAST = Integer.MIN_VALUE, MOST = Integer.MAX_VALUE;
    static final int[] WRONG_MODELS = {-1, 4, LEAST, MOST};
    private static int wrong = 0;

    static void due(int promise, String call, int got, int want) {
        if (got != want) {
            wrong++;
            System.out.println("promise " + promise + ": " + call + " answered " + got + ", due is " + want);
        }
    }

    static void end() {
        System.out.println(wrong == 0 ? "all answers are as due" : wrong + " answers are not as due");
        if (wrong != 0) {
            System.exit(1);
        }
    }

    /** A new object with threads and actions: rows of thread, kind, x, register, v. */
    static OrderModels of(int threads, int[]... actions) {
        OrderModels m = new OrderModels();
        tell(m, threads, actions);
        return m;
    }

    static void tell(OrderModels m, int threads, int[]... actions) {
        int[] lengths = new int[4];
        for (int t = 0; t < threads; t++) {
            due(2, "thread()", m.thread(), t);
        }
        for (int[] a : actions) {
            lengths[a[0]]++;
            due(3, "action" + Arrays.toString(a), m.action(a[0], a[1], a[2], a[3], a[4]), lengths[a[0]]);
        }
    }

    static int[] read(int t, int x, int r) {
        return new int[] {t, READ, x, r, 0};
    }

    static int[] write(int t, int x, int v) {
        return new int[] {t, WRITE, x, 0, v};
    }

    static int[] send(int t, int x, int r, int v) {
        return new int[] {t, SEND, x, r, v};
    }

    static int[] add(int t, int x, int r, int v) {
        return new int[] {t, ADD, x, r, v};
    }

    static int[] fence(int t) {
        return new int[] {t, FENCE, 0, 0, 0};
    }

    static int[] skip(int t, int n, int r, int v) {
        return new int[] {t, SKIP, n, r, v};
    }

    // two threads, each writes one variable and reads the other one
    static OrderModels storeBuffering() {
        return of(2, write(0, 0, 1), read(0, 1, 0), write(1, 1, 1), read(1, 0, 0));
    }

    static OrderModels storeBufferingFenced() {
        return of(2, write(0, 0, 1), fence(0), read(0, 1, 0), write(1, 1, 1), fence(1), read(1, 0, 0));
    }

    // what a thread reads from its own buffer puts nothing in order
    static OrderModels ownReadsFirst() {
        return of(2, write(0, 0, 1), read(0, 0, 0), read(0, 1, 1), write(1, 1, 1), read(1, 1, 0), read(1, 0, 1));
    }

    static OrderModels messagePassing() {
        return of(2, write(0, 0, 1), write(0, 1, 1), read(1, 1, 0), read(1, 0, 1));
    }

    static OrderModels loadBuffering() {
        return of(2, read(0, 0, 0), write(0, 1, 1), read(1, 1, 0), write(1, 0, 1));
    }

    static OrderModels twoWritesTwice() {
        return of(2, write(0, 0, 1), write(0, 1, 2), write(1, 1, 1), write(1, 0, 2));
    }

    static OrderModels independentReads() {
        return of(4, write(0, 0, 1), write(1, 1, 1), read(2, 0, 0), read(2, 1, 1), read(3, 1, 0), read(3, 0, 1));
    }

    static OrderModels twoAdds() {
        return of(2, add(0, 0, 0, 1), add(1, 0, 0, 1));
    }

    /** How many outcomes there are by runs, which are as many as by graphs. */
    static void dueRuns(String name, OrderModels m, int... counts) {
        for (int model = 0; model < 4; model++) {
            due(5, name + ": runs(" + model + ")", m.runs(model), counts[model]);
            due(8, name + ": orders(" + model + ")", m.orders(model), counts[model]);
        }
    }

    static void dueGraphs(String name, OrderModels m, int... counts) {
        for (int model = 0; model < 4; model++) {
            due(10, name + ": graphs(" + model + ")", m.graphs(model), counts[model]);
        }
    }

    static void dueWitness(OrderModels m, int model, int i, int... steps) {
        for (int k = 0; k < steps.length; k++) {
            due(7, "witness(" + model + ", " + i + ", " + k + ")", m.witness(model, i, k), steps[k]);
        }
        due(7, "witness(" + model + ", " + i + ") ended", m.witness(model, i, steps.length), -1);
    }

    /** Of outcome i in every model, by runs and by graphs, one of the eleven. */
    static void dueValue(String name, OrderModels m, int i, int what, int want) {
        for (int model = 0; model < 4; model++) {
            String asked = "(" + model + ", " + i + ", " + what + ")";
            due(6, name + ": outcome" + asked, m.outcome(model, i, what), want);
            due(9, name + ": ordered" + asked, m.ordered(model, i, what), want);
        }
    }

    /** Of outcome i in every model, by runs and by graphs, all eleven. */
    static void dueOutcome(String name, OrderModels m, int i, int... want) {
        for (int what = 0; what < 11; what++) {
            dueValue(name, m, i, what, want[what]);
        }
    }
}
