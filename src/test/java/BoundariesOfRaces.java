/** The boundary cases of RACES, a sentence of the document each: promises 12 and 13, and the Terms behind them. */
public final class BoundariesOfRaces extends Checks {
    public static void main(String[] args) {
        noRacesOfNothing();
        mostRaces();
        ofTwoThreads();
        onOneVariable();
        oneOfThemAWriter();
        notBothAdds();
        bothNextAtATime();
        inSomeRun();
        ofModelZero();
        noneSuchAction();
        noneSuchThread();
        oneThreadTwice();
        actionsFromZeroOn();
        racesAskedFirst();
        racesAreRaces();
        end();
    }

    /** All pairs by race(): as many as races() tells, each of them both ways round. */
    private static int countPairs(OrderModels m) {
        int pairs = 0;
        for (int t = 0; t < 4; t++) {
            for (int u = 0; u < 4; u++) {
                for (int i = 0; i < 7; i++) {
                    for (int j = 0; j < 7; j++) {
                        pairs += m.race(t, i, u, j) == 1 ? 1 : 0;
                    }
                }
            }
        }
        return pairs;
    }

    private static void dueRaces(String name, OrderModels m, int races) {
        due(12, name + ": races()", m.races(), races);
        due(13, name + ": all of race()", countPairs(m), 2 * races);
    }

    // Promise 12: "How many RACES there are.": none without THREADS, without ACTIONS, with one THREAD
    private static void noRacesOfNothing() {
        for (int threads = 0; threads <= 4; threads++) {
            dueRaces(threads + " threads without actions", of(threads), 0);
        }
        dueRaces("one action", of(4, write(0, 0, 1)), 0);
        dueRaces("one thread", of(1, write(0, 0, 1), write(0, 0, 2), read(0, 0, 0)), 0);
    }

    // Promise 12: "How many RACES there are.": 7 WRITERS of 4 THREADS have 21 pairs, 3 of them of one THREAD
    private static void mostRaces() {
        OrderModels m = of(4, write(0, 1, 1), write(1, 1, 2), write(2, 1, 3), write(3, 1, 4), send(0, 1, 0, 5),
                send(1, 1, 0, 6), send(2, 1, 0, 7));
        dueRaces("seven writers", m, 18);
        OrderModels two = of(2, write(0, 2, 1), write(0, 2, 2), write(0, 2, 3), write(0, 2, 4), read(1, 2, 0),
                read(1, 2, 0), read(1, 2, 0));
        dueRaces("four and three", two, 12);
        due(13, "the last ones of both", two.race(0, 3, 1, 2), 1);
        due(13, "the last ones of both", two.race(1, 2, 0, 3), 1);
    }

    // Terms: "pairs of ACTIONS of two THREADS"
    private static void ofTwoThreads() {
        OrderModels m = of(2, write(0, 0, 1), write(0, 0, 2), write(1, 0, 3));
        dueRaces("two of one thread are none", m, 2);
    }

    // Terms: "on one VARIABLE": FENCES and SKIPS are on none, whatever their x is
    private static void onOneVariable() {
        for (int x = 0; x < 3; x++) {
            for (int y = 0; y < 3; y++) {
                dueRaces("variables " + x + ", " + y, of(2, write(0, x, 1), read(1, y, 0)), x == y ? 1 : 0);
            }
        }
        dueRaces("a fence and variable 0", of(2, fence(0), write(1, 0, 1)), 0);
        dueRaces("two fences", of(2, fence(0), fence(1)), 0);
        dueRaces("a skip of 1 and variable 1", of(2, skip(0, 1, 0, 0), write(1, 1, 1)), 0);
        dueRaces("a skip of 2 and variable 2", of(2, skip(0, 2, 0, 0), add(1, 2, 0, 1)), 0);
        dueRaces("two skips", of(2, skip(0, 1, 0, 0), skip(1, 1, 0, 0)), 0);
        due(13, "a fence is there, but no race", of(2, fence(0), write(1, 0, 1)).race(0, 0, 1, 0), 0);
        due(13, "a skip is there, but no race", of(2, skip(0, 1, 0, 0), write(1, 1, 1)).race(0, 0, 1, 0), 0);
    }

    // Terms: "one of them a WRITER"; "WRITERS are WRITES, SENDS, ADDS."
    private static void oneOfThemAWriter() {
        int[][] first = {read(0, 0, 0), write(0, 0, 1), send(0, 0, 0, 1), add(0, 0, 0, 1)};
        int[][] second = {read(1, 0, 0), write(1, 0, 1), send(1, 0, 0, 1), add(1, 0, 0, 1)};
        for (int a = 0; a < 4; a++) {
            for (int b = 0; b < 4; b++) {
                boolean race = (a != READ || b != READ) && (a != ADD || b != ADD);
                dueRaces("kinds " + a + ", " + b, of(2, first[a], second[b]), race ? 1 : 0);
            }
        }
    }

    // Terms: "not both ADDS"
    private static void notBothAdds() {
        dueRaces("two adds", twoAdds(), 0);
        due(13, "two adds", twoAdds().race(0, 0, 1, 0), 0);
        OrderModels m = of(4, add(0, 0, 0, 1), add(1, 0, 0, 1), add(2, 0, 0, 1), write(3, 0, 1));
        dueRaces("three adds and a write", m, 3);
    }

    // Terms: "both the next ones of their THREADS at a time"
    private static void bothNextAtATime() {
        // who reads the flag as 1 reads the rest when the write to it is done
        OrderModels m = of(2, write(0, 0, 1), write(0, 1, 1), read(1, 1, 0), skip(1, 1, 0, 1), read(1, 0, 1));
        dueRaces("guarded", m, 1);
        due(13, "the flag", m.race(0, 1, 1, 0), 1);
        due(13, "what it guards", m.race(0, 0, 1, 2), 0);
        // without the guard it is a race
        OrderModels open = of(2, write(0, 0, 1), write(0, 1, 1), read(1, 1, 0), read(1, 0, 1));
        dueRaces("not guarded", open, 2);
        // fences are no guard: in model 0 they are next ones like others
        OrderModels fenced = of(2, write(0, 0, 1), fence(0), write(0, 1, 1), read(1, 1, 0), fence(1), read(1, 0, 1));
        dueRaces("fenced", fenced, 2);
    }

    // Terms: "in some RUN": one is enough, but one there must be
    private static void inSomeRun() {
        OrderModels never = of(2, skip(0, 1, 0, 5), write(0, 0, 1), write(1, 0, 2));
        dueRaces("always passed over", never, 0);
        due(13, "passed over, but there", never.race(0, 1, 1, 0), 0);
        OrderModels sometimes = of(3, read(0, 1, 0), skip(0, 1, 0, 1), write(0, 0, 1), write(1, 1, 1), write(2, 0, 2));
        dueRaces("in some runs passed over", sometimes, 2);
        due(13, "in some runs passed over", sometimes.race(0, 2, 2, 0), 1);
    }

    // Terms: "in some RUN of MODEL 0": asking for other MODELS changes no RACE
    private static void ofModelZero() {
        OrderModels m = storeBuffering();
        for (int model = 3; model >= 0; model--) {
            m.runs(model);
            m.graphs(model);
            dueRaces("after model " + model, m, 2);
        }
    }

    // Promise 13: "NONE: none such": ACTIONS that a THREAD has not
    private static void noneSuchAction() {
        OrderModels m = of(3, write(0, 0, 1), write(0, 0, 2), write(1, 0, 3));
        int[] none = {LEAST, -1, 2, 7, MOST};
        for (int i : none) {
            due(13, "race(0, " + i + ", 1, 0)", m.race(0, i, 1, 0), -1);
            due(13, "race(1, 0, 0, " + i + ")", m.race(1, 0, 0, i), -1);
        }
        due(13, "thread 1 has but one", m.race(0, 0, 1, 1), -1);
        due(13, "thread 1 has but one", m.race(1, 1, 0, 0), -1);
        due(13, "thread 2 has none", m.race(0, 0, 2, 0), -1);
        due(13, "thread 2 has none", m.race(2, 0, 0, 0), -1);
        due(13, "the last one of thread 0", m.race(0, 1, 1, 0), 1);
    }

    // Promise 13: "NONE: none such": THREADS that there are not
    private static void noneSuchThread() {
        OrderModels m = of(2, write(0, 0, 1), write(1, 0, 3));
        int[] none = {LEAST, -1, 2, 3, 4, MOST};
        for (int t : none) {
            due(13, "race(" + t + ", 0, 1, 0)", m.race(t, 0, 1, 0), -1);
            due(13, "race(0, 0, " + t + ", 0)", m.race(0, 0, t, 0), -1);
            due(13, "race(" + t + ", 0, " + t + ", 0)", m.race(t, 0, t, 0), -1);
        }
        due(13, "behind what was refused", m.race(0, 0, 1, 0), 1);
        OrderModels full = of(4, write(0, 0, 1), write(3, 0, 3));
        due(13, "the last thread", full.race(0, 0, 3, 0), 1);
        due(13, "behind the last thread", full.race(0, 0, 4, 0), -1);
        due(13, "behind the last thread", full.race(4, 0, 3, 0), -1);
    }

    // Promise 13: "NONE: .. one THREAD twice."
    private static void oneThreadTwice() {
        OrderModels m = of(2, write(0, 0, 1), write(0, 0, 2), write(1, 0, 3), write(1, 0, 4));
        for (int t = 0; t < 2; t++) {
            for (int i = 0; i < 3; i++) {
                for (int j = 0; j < 3; j++) {
                    due(13, "race(" + t + ", " + i + ", " + t + ", " + j + ")", m.race(t, i, t, j), -1);
                }
            }
        }
    }

    // Promise 13: "Whether ACTION i (from 0 on) of a THREAD and ACTION j of another THREAD are a RACE.": both ways
    private static void actionsFromZeroOn() {
        OrderModels m = of(2, write(0, 0, 1), read(0, 1, 0), read(1, 2, 0), read(1, 0, 0));
        int[][] want = {{0, 1}, {0, 0}};
        for (int i = 0; i < 2; i++) {
            for (int j = 0; j < 2; j++) {
                due(13, "race(0, " + i + ", 1, " + j + ")", m.race(0, i, 1, j), want[i][j]);
                due(13, "race(1, " + j + ", 0, " + i + ")", m.race(1, j, 0, i), want[i][j]);
            }
        }
    }

    // Promises 12 and 13 need nothing to be asked before them
    private static void racesAskedFirst() {
        due(12, "races() first", storeBuffering().races(), 2);
        due(13, "race() first", storeBuffering().race(0, 0, 1, 1), 1);
        OrderModels m = storeBuffering();
        due(12, "races()", m.races(), 2);
        due(3, "one more", m.action(1, WRITE, 0, 0, 5), 3);
        due(13, "race() of the new one first", m.race(0, 0, 1, 2), 1);
        due(12, "races() with the new one", m.races(), 3);
        due(4, "clear()", m.clear(), 2);
        due(12, "races() of nothing", m.races(), 0);
        tell(m, 2, read(0, 0, 0), read(0, 1, 0), read(1, 1, 0), read(1, 0, 0));
        due(12, "races() of reads where writes were", m.races(), 0);
        due(13, "race() of reads where writes were", m.race(0, 0, 1, 1), 0);
    }

    // Promise 12: "How many RACES": a pair is one, whichever way round it is asked for
    private static void racesAreRaces() {
        dueRaces("store buffering", storeBuffering(), 2);
        dueRaces("independent reads", independentReads(), 4);
        dueRaces("two writes twice", twoWritesTwice(), 2);
        OrderModels four = of(4, write(0, 0, 1), write(1, 0, 1), write(2, 0, 1), read(3, 0, 0));
        dueRaces("each with each", four, 6);
    }
}
