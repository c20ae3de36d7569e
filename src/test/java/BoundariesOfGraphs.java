/** The boundary cases of GRAPHS, a sentence of the document each: promises 8, 9 and 10, and the Terms behind them. */
public final class BoundariesOfGraphs extends Checks {
    public static void main(String[] args) {
        noSuchModelHasOrders();
        nothingHasOneGraph();
        noneSuchOrdered();
        noSuchModelHasGraphs();
        graphsAreNotOutcomes();
        fromTheFirstOrFromAWriteOfZero();
        fromNotItself();
        fromOneThatHappens();
        whatHappensFollows();
        ringOfFromAndOwnOrder();
        addIsRightBehindWhatItIsFrom();
        firstIsAheadOfAll();
        seenBeforeIsNotOfItself();
        fencesHaveARowInModelThree();
        skipsStandInNoOrder();
        fencesHaveOwnBefore();
        writeOrSendAheadOfARead();
        writeOrSendAheadOfAnother();
        oneVariableKeepsItsOrder();
        fromBeforeOfTwoThreads();
        happensIsClosed();
        happensIsNoRingOfRows();
        lastInARow();
        mostGraphs();
        end();
    }

    // ---------------------------------------------------------------- promises 8, 9 and 10

    // Promise 8: "NONE: no such MODEL."
    private static void noSuchModelHasOrders() {
        OrderModels[] all = {new OrderModels(), storeBuffering()};
        for (OrderModels m : all) {
            for (int model : WRONG_MODELS) {
                due(8, "orders(" + model + ")", m.orders(model), -1);
            }
        }
        due(8, "orders(1) behind what was refused", all[1].orders(1), 4);
    }

    // Promises 8 and 10: "How many": of no ACTIONS the GRAPH of nothing stands
    private static void nothingHasOneGraph() {
        for (int threads = 0; threads <= 4; threads++) {
            OrderModels m = of(threads);
            dueGraphs(threads + " threads", m, 1, 1, 1, 1);
            for (int model = 0; model < 4; model++) {
                due(8, "orders(" + model + ")", m.orders(model), 1);
                for (int what = 0; what < 11; what++) {
                    due(9, "ordered(" + model + ", 0, " + what + ")", m.ordered(model, 0, what), 0);
                }
            }
        }
    }

    // Promise 9: "as outcome(). -1000: none such."
    private static void noneSuchOrdered() {
        OrderModels nothing = new OrderModels();
        OrderModels m = storeBuffering();
        int[] none = {LEAST, -1, MOST};
        for (int model = 0; model < 4; model++) {
            due(9, "behind the only one", nothing.ordered(model, 1, 0), -1000);
            due(9, "the only one, what 11", nothing.ordered(model, 0, 11), -1000);
            due(9, "the last one", m.ordered(model, m.orders(model) - 1, 9), 1);
            due(9, "behind the last one", m.ordered(model, m.orders(model), 9), -1000);
            due(9, "what 10", m.ordered(model, 0, 10), 0);
            due(9, "what 11", m.ordered(model, 0, 11), -1000);
            for (int one : none) {
                due(9, "i " + one, m.ordered(model, one, 0), -1000);
                due(9, "what " + one, m.ordered(model, 0, one), -1000);
            }
        }
        for (int model : WRONG_MODELS) {
            due(9, "model " + model, m.ordered(model, 0, 0), -1000);
            due(9, "model " + model + " of nothing", nothing.ordered(model, 0, 0), -1000);
        }
    }

    // Promise 10: "NONE: no such MODEL."
    private static void noSuchModelHasGraphs() {
        OrderModels[] all = {new OrderModels(), storeBuffering()};
        for (OrderModels m : all) {
            for (int model : WRONG_MODELS) {
                due(10, "graphs(" + model + ")", m.graphs(model), -1);
            }
        }
        dueGraphs("behind what was refused", all[1], 3, 4, 4, 4);
    }

    // Promise 10: "How many GRAPHS stand": GRAPHS of one OUTCOME count each
    private static void graphsAreNotOutcomes() {
        OrderModels rows = of(3, write(0, 0, 1), write(1, 0, 1), write(2, 0, 1));
        dueGraphs("three rows, one outcome", rows, 6, 6, 6, 6);
        dueRuns("three rows, one outcome", rows, 1, 1, 1, 1);
        OrderModels reads = of(3, write(0, 0, 1), write(1, 0, 1), read(2, 0, 0));
        dueGraphs("two rows, from any of three", reads, 6, 6, 6, 6);
        dueRuns("two rows, from any of three", reads, 2, 2, 2, 2);
    }

    // ---------------------------------------------------------------- what a graph is

    // Terms: "FROM which WRITER .. or from the FIRST value, 0": these are two, though the value is one
    private static void fromTheFirstOrFromAWriteOfZero() {
        OrderModels m = of(2, write(0, 0, 0), read(1, 0, 0));
        dueGraphs("the first, or the write of 0", m, 2, 2, 2, 2);
        dueRuns("the first, or the write of 0", m, 1, 1, 1, 1);
    }

    // Terms: "(not itself)"
    private static void fromNotItself() {
        OrderModels one = of(1, add(0, 0, 0, 1));
        dueGraphs("an add alone", one, 1, 1, 1, 1);
        dueOutcome("an add alone", one, 0, 0, 0, 0, 0, 0, 0, 0, 0, 1, 0, 0);
        OrderModels seven = of(1, add(0, 1, 0, 1), add(0, 1, 0, 1), add(0, 1, 0, 1), add(0, 1, 0, 1), add(0, 1, 0, 1),
                add(0, 1, 0, 1), add(0, 1, 0, 1));
        dueGraphs("seven adds of one thread", seven, 1, 1, 1, 1);
    }

    // Terms: "FROM which WRITER of its VARIABLE that happens"
    private static void fromOneThatHappens() {
        OrderModels passed = of(2, skip(0, 1, 0, 5), write(0, 0, 1), read(1, 0, 0));
        dueGraphs("the write is passed over", passed, 1, 1, 1, 1);
        dueValue("the write is passed over", passed, 0, 2, 0);
        OrderModels done = of(2, skip(0, 1, 0, 0), write(0, 0, 1), read(1, 0, 0));
        dueGraphs("the write happens", done, 2, 2, 2, 2);
        OrderModels other = of(2, write(0, 1, 1), write(0, 2, 1), read(1, 0, 0));
        dueGraphs("writers of other variables", other, 1, 1, 1, 1);
    }

    // Terms: "REGISTERS, what is written, and what happens follow from that by the THREADS"
    private static void whatHappensFollows() {
        OrderModels m = of(2, read(0, 0, 0), skip(0, 1, 0, 1), write(0, 1, 7), write(1, 0, 1), read(1, 1, 0));
        // what thread 0 has seen tells whether there is a 7 that thread 1 can read
        dueGraphs("seen or not", m, 3, 3, 3, 3);
        dueOutcome("not seen", m, 0, 0, 0, 0, 0, 0, 0, 0, 0, 1, 0, 0);
        dueOutcome("seen, the 7 is not", m, 1, 1, 0, 0, 0, 0, 0, 0, 0, 1, 7, 0);
        dueOutcome("seen, the 7 too", m, 2, 1, 0, 7, 0, 0, 0, 0, 0, 1, 7, 0);
    }

    // Terms: "(a GRAPH where FROM and the ACTIONS' own order go round in a ring is none)"
    private static void ringOfFromAndOwnOrder() {
        dueGraphs("each reads what the other writes later", loadBuffering(), 3, 3, 3, 3);
        dueGraphs("from its own later write", of(1, read(0, 0, 0), write(0, 0, 1)), 1, 1, 1, 1);
        OrderModels values = of(2, read(0, 0, 0), send(0, 1, 0, 1), read(1, 1, 0), send(1, 0, 0, 1));
        dueGraphs("values out of nothing", values, 3, 3, 3, 3);
        // each would write only because of what the other writes
        OrderModels happens = of(2, read(0, 0, 0), skip(0, 1, 0, 1), write(0, 1, 1), read(1, 1, 0), skip(1, 1, 0, 1),
                write(1, 0, 1));
        dueGraphs("happenings out of nothing", happens, 1, 1, 1, 1);
        dueOutcome("happenings out of nothing", happens, 0, 0, 0, 0, 0, 0, 0, 0, 0, 0, 0, 0);
        OrderModels three = of(3, read(0, 0, 0), send(0, 1, 0, 1), read(1, 1, 0), send(1, 2, 0, 1), read(2, 2, 0),
                send(2, 0, 0, 1));
        dueGraphs("a ring of three", three, 7, 7, 7, 7);
    }

    // Terms: "an ADD right behind the one that it is FROM"
    private static void addIsRightBehindWhatItIsFrom() {
        dueGraphs("two adds", twoAdds(), 2, 2, 2, 2);
        dueGraphs("three adds", of(3, add(0, 0, 0, 1), add(1, 0, 0, 1), add(2, 0, 0, 1)), 6, 6, 6, 6);
        OrderModels between = of(2, add(0, 0, 0, 1), write(1, 0, 5));
        dueGraphs("no write comes between", between, 2, 2, 2, 2);
        dueValue("none between", between, 0, 8, 5);
        dueValue("none between", between, 1, 8, 6);
        // a row of two writes and an add: the add behind any of the three there
        OrderModels rows = of(3, add(0, 0, 0, 1), write(1, 0, 5), write(2, 0, 7));
        dueGraphs("one add, two writes", rows, 6, 6, 6, 6);
    }

    // Terms: "the FIRST ahead of all"
    private static void firstIsAheadOfAll() {
        dueGraphs("a write is never ahead of the first", of(1, write(0, 0, 1), read(0, 0, 0)), 1, 1, 1, 1);
        OrderModels m = of(1, write(0, 0, 1));
        dueValue("the first is not last", m, 0, 8, 1);
    }

    // Terms: "SEEN-BEFORE: A is FROM one that is ROW-BEFORE B, and is not B."
    private static void seenBeforeIsNotOfItself() {
        // an ADD is FROM the FIRST, which is ahead of the ADD itself: no ring
        for (int x = 0; x < 3; x++) {
            dueGraphs("an add", of(1, add(0, x, 1, 9)), 1, 1, 1, 1);
        }
        dueGraphs("a write and an add", of(1, write(0, 0, 1), add(0, 0, 0, 1)), 1, 1, 1, 1);
        // of another one it is: who has read the first comes ahead of the write
        dueGraphs("a read and a write", of(2, read(0, 0, 0), read(0, 0, 1), write(1, 0, 1)), 3, 3, 3, 3);
    }

    // Terms: "(in MODEL 3 the FENCES have such a ROW, each an ADD of 0 that is FROM the one right ahead)"
    private static void fencesHaveARowInModelThree() {
        dueGraphs("one fence", of(1, fence(0)), 1, 1, 1, 1);
        dueGraphs("two threads", of(2, fence(0), fence(1)), 1, 1, 1, 2);
        dueGraphs("three threads", of(3, fence(0), fence(1), fence(2)), 1, 1, 1, 6);
        dueGraphs("four threads", of(4, fence(0), fence(1), fence(2), fence(3)), 1, 1, 1, 24);
        dueGraphs("two of one thread", of(1, fence(0), fence(0)), 1, 1, 1, 1);
        dueGraphs("two of one, one of another", of(2, fence(0), fence(0), fence(1)), 1, 1, 1, 3);
        dueGraphs("one is passed over", of(2, skip(0, 1, 0, 1), fence(0), fence(1)), 1, 1, 1, 1);
        dueRuns("fences change nothing", of(2, fence(0), fence(0), fence(1)), 1, 1, 1, 1);
        dueOutcome("fences change nothing", of(2, fence(0), fence(1)), 0, 0, 0, 0, 0, 0, 0, 0, 0, 0, 0, 0);
        // what is ahead of the first fence happens before what is behind the second one
        OrderModels m = of(2, write(0, 0, 1), fence(0), fence(1), read(1, 0, 0));
        dueGraphs("three of the four stand", m, 2, 2, 2, 3);
    }

    // ---------------------------------------------------------------- what stands

    // Terms: "(SKIPS stand in no order."
    private static void skipsStandInNoOrder() {
        OrderModels m = of(2, write(0, 0, 1), skip(0, 1, 1, 0), read(0, 1, 0), write(1, 1, 1), skip(1, 1, 1, 0),
                read(1, 0, 0));
        dueGraphs("a skip is no fence", m, 3, 4, 4, 4);
        dueRuns("a skip is no fence", m, 3, 4, 4, 4);
        OrderModels writes = of(2, write(0, 0, 1), skip(0, 1, 1, 0), write(0, 1, 1), read(1, 1, 0), read(1, 0, 1));
        dueGraphs("between two writes", writes, 3, 3, 4, 3);
        // a SKIP'S x is no VARIABLE: this one is between two on VARIABLE 1
        OrderModels same = of(2, write(0, 1, 1), skip(0, 1, 1, 0), read(0, 1, 0), write(1, 1, 2));
        dueGraphs("its x is no variable", same, 3, 3, 3, 3);
    }

    // Terms: "FENCES but in MODEL 3 have OWN-BEFORE alone; in the first of the two they do not count.)"
    private static void fencesHaveOwnBefore() {
        dueGraphs("store buffering", storeBuffering(), 3, 4, 4, 4);
        dueGraphs("store buffering, fenced", storeBufferingFenced(), 3, 3, 3, 4);
        OrderModels one = of(2, write(0, 0, 1), fence(0), read(0, 1, 0), write(1, 1, 1), read(1, 0, 0));
        dueGraphs("one fence does not do", one, 3, 4, 4, 4);
        OrderModels passing = of(2, write(0, 0, 1), fence(0), write(0, 1, 1), read(1, 1, 0), read(1, 0, 1));
        dueGraphs("between two writes", passing, 3, 3, 3, 3);
        // a FENCE'S x, 0, is not VARIABLE 0, in either of the two
        OrderModels zero = of(2, fence(0), write(0, 1, 1), read(0, 0, 0), write(1, 0, 1), read(1, 1, 0));
        dueGraphs("ahead of all it does nothing", zero, 3, 4, 4, 4);
    }

    // Terms, MODEL 1: "left out are a WRITE or SEND ahead of a READ": not an ADD, and not ahead of an ADD
    private static void writeOrSendAheadOfARead() {
        OrderModels sends = of(2, send(0, 0, 1, 1), read(0, 1, 0), send(1, 1, 1, 1), read(1, 0, 0));
        dueGraphs("sends", sends, 3, 4, 4, 4);
        OrderModels adds = of(2, add(0, 0, 1, 1), read(0, 1, 0), add(1, 1, 1, 1), read(1, 0, 0));
        dueGraphs("adds ahead of reads", adds, 3, 3, 3, 4);
        OrderModels behind = of(2, write(0, 0, 1), add(0, 1, 0, 0), write(1, 1, 1), add(1, 0, 0, 0));
        // both adds FROM the first is no way in models 0 to 2
        dueGraphs("writes ahead of adds", behind, 3, 3, 3, 4);
        // a READ ahead of a WRITE is not left out
        dueGraphs("reads ahead of writes", loadBuffering(), 3, 3, 3, 3);
    }

    // Terms, MODEL 2: "also ahead of a WRITE or SEND on another VARIABLE"
    private static void writeOrSendAheadOfAnother() {
        dueGraphs("two writes", messagePassing(), 3, 3, 4, 3);
        OrderModels sends = of(2, send(0, 0, 1, 1), send(0, 1, 1, 1), read(1, 1, 0), read(1, 0, 1));
        dueGraphs("two sends", sends, 3, 3, 4, 3);
        OrderModels toAdd = of(2, write(0, 0, 1), add(0, 1, 1, 1), read(1, 1, 0), read(1, 0, 1));
        dueGraphs("a write ahead of an add", toAdd, 3, 3, 3, 3);
        OrderModels fromAdd = of(2, add(0, 0, 1, 1), write(0, 1, 1), read(1, 1, 0), read(1, 0, 1));
        dueGraphs("an add ahead of a write", fromAdd, 3, 3, 3, 3);
        dueGraphs("two writes twice", twoWritesTwice(), 3, 3, 4, 4);
        // two READS are not left out, in none of the models
        OrderModels reads = of(2, write(0, 0, 1), fence(0), write(0, 1, 1), read(1, 1, 0), read(1, 0, 1));
        dueGraphs("two reads", reads, 3, 3, 3, 3);
    }

    // Terms, MODELS 1, 2: "of OWN-BEFORE of ACTIONS on one VARIABLE, with FROM-, ROW-, SEEN-BEFORE"
    private static void oneVariableKeepsItsOrder() {
        dueGraphs("a write, then a read", of(1, write(0, 0, 1), read(0, 0, 0)), 1, 1, 1, 1);
        dueGraphs("two writes", of(1, write(0, 0, 1), write(0, 0, 2)), 1, 1, 1, 1);
        dueGraphs("a read, then a write", of(1, read(0, 0, 0), write(0, 0, 2)), 1, 1, 1, 1);
        OrderModels two = of(2, write(0, 0, 1), write(0, 0, 2), read(1, 0, 0), read(1, 0, 1));
        dueGraphs("two writes, two reads", two, 6, 6, 6, 6);
        OrderModels other = of(2, write(0, 0, 1), read(0, 0, 0), write(1, 0, 2));
        dueGraphs("own, or one behind it", other, 3, 3, 3, 3);
    }

    // Terms, MODELS 1, 2: "FROM-BEFORE of two THREADS": what is read of one's own puts nothing in order
    private static void fromBeforeOfTwoThreads() {
        dueGraphs("own reads between", ownReadsFirst(), 3, 4, 4, 4);
        // of two THREADS it does
        OrderModels m = of(3, write(0, 0, 1), read(1, 0, 0), write(1, 1, 1), read(2, 1, 0), read(2, 0, 1));
        dueGraphs("through a second thread", m, 7, 7, 7, 7);
    }

    // Terms, MODEL 3: "HAPPENS is OWN- and FROM-BEFORE, closed"
    private static void happensIsClosed() {
        OrderModels m = of(3, write(0, 0, 1), read(1, 0, 0), write(1, 1, 1), read(2, 1, 0), read(2, 0, 1));
        // of 2 * 2 * 2 ways only the one that knows the write through two others and reads 0 does not stand
        due(10, "graphs(3)", m.graphs(3), 7);
        due(8, "orders(3)", m.orders(3), 7);
        for (int i = 0; i < 7; i++) {
            boolean stale = m.ordered(3, i, 2) == 1 && m.ordered(3, i, 4) == 1 && m.ordered(3, i, 5) == 0;
            due(9, "known, but not read", stale ? 1 : 0, 0);
        }
    }

    // Terms, MODEL 3: "no A that HAPPENS before B while one goes from B to A by FROM-, ROW-, SEEN-BEFORE"
    private static void happensIsNoRingOfRows() {
        // rings that need HAPPENS twice do stand: two rows against two threads, four reads of two writes
        dueGraphs("two writes twice", twoWritesTwice(), 3, 3, 4, 4);
        dueGraphs("independent reads", independentReads(), 15, 15, 15, 16);
        dueGraphs("store buffering", storeBuffering(), 3, 4, 4, 4);
        // with HAPPENS once they do not: by a ROW, by SEEN, and by SEEN and a ROW one behind the other
        dueGraphs("by a row", of(1, write(0, 0, 1), write(0, 0, 2)), 1, 1, 1, 1);
        dueGraphs("by seen", of(2, read(0, 0, 0), read(0, 0, 1), write(1, 0, 1)), 3, 3, 3, 3);
        OrderModels both = of(2, write(0, 0, 1), read(0, 0, 0), write(1, 0, 2), write(1, 0, 3));
        dueGraphs("by both", both, 6, 6, 6, 6);
    }

    // Terms: "The OUTCOME of a GRAPH: the REGISTERS; of each VARIABLE the last one in its ROW."
    private static void lastInARow() {
        OrderModels m = of(2, write(0, 2, 1), send(1, 2, 0, -1));
        dueOutcome("the send is last", m, 0, 0, 0, 0, 0, 0, 0, 0, 0, 0, 0, -1);
        dueOutcome("the write is last", m, 1, 0, 0, 0, 0, 0, 0, 0, 0, 0, 0, 1);
        // in a ROW without WRITERS the FIRST is
        OrderModels reads = of(1, read(0, 0, 0), read(0, 1, 1), read(0, 2, 0));
        dueOutcome("reads alone", reads, 0, 0, 0, 0, 0, 0, 0, 0, 0, 0, 0, 0);
    }

    // Promise 10: "How many GRAPHS stand": 7 ACTIONS of 4 THREADS, as full as can be
    private static void mostGraphs() {
        OrderModels writes = of(4, write(0, 0, 1), write(1, 0, 2), write(2, 0, 3), write(3, 0, 4), write(0, 0, 5),
                write(1, 0, 6), write(2, 0, 7));
        // 7! rows, of which each of three threads lets one half stand
        dueGraphs("seven writes", writes, 630, 630, 630, 630);
        dueRuns("seven writes", writes, 4, 4, 4, 4);
        OrderModels adds = of(4, add(0, 0, 0, 1), add(1, 0, 0, 1), add(2, 0, 0, 1), add(3, 0, 0, 1), add(0, 0, 1, 1),
                add(1, 0, 1, 1), add(2, 0, 1, 1));
        dueGraphs("seven adds", adds, 630, 630, 630, 630);
        dueRuns("seven adds", adds, 630, 630, 630, 630);
        OrderModels fences = of(4, fence(0), fence(1), fence(2), fence(3), fence(0), fence(1), fence(2));
        dueGraphs("seven fences", fences, 1, 1, 1, 630);
    }
}
