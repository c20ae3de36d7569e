/** The boundary cases of RUNS of MODEL 3, a sentence of the Terms each, as promises 5, 6 and 7 tell them. */
public final class BoundariesOfKnowing extends Checks {
    public static void main(String[] args) {
        rowHasOneAtFirst();
        readIsNotAheadOfWhatIsKnown();
        readGoesToTheLastOfTheRow();
        learnedFromWhatIsRead();
        firstOnesKnowTheFirstOnes();
        knownIsNotLost();
        writeComesBehindWhatIsKnown();
        thoseFromThereOnMoveOn();
        writeIsNotRightAheadOfAnAdd();
        addIsOfOneThatHasNoAddBehind();
        addIsNotAheadOfWhatIsKnown();
        writtenOneKnowsWhatTheThreadKnows();
        fencesAreToldAsZero();
        fencesLearnFromEachOther();
        fenceLeavesRegistersAlone();
        skipIsToldAsZero();
        lastInTheRowIsTheVariable();
        end();
    }

    // "has a ROW of WRITTEN ones: at first one alone, of value 0"
    private static void rowHasOneAtFirst() {
        for (int x = 0; x < 3; x++) {
            OrderModels m = of(1, read(0, x, 1));
            due(5, "one place to read", m.runs(3), 1);
            due(6, "its value", m.outcome(3, 0, 1), 0);
            dueWitness(m, 3, 0, 0);
            OrderModels a = of(1, add(0, x, 0, 4));
            due(5, "one place to add to", a.runs(3), 1);
            due(6, "its value and 4", a.outcome(3, 0, 8 + x), 4);
            dueWitness(a, 3, 0, 0);
        }
    }

    // "READ: of one in the ROW .. not ahead of the one that the THREAD KNOWS": that one itself may be
    private static void readIsNotAheadOfWhatIsKnown() {
        OrderModels own = of(1, write(0, 0, 1), read(0, 0, 0));
        due(5, "its own write is known", own.runs(3), 1);
        dueWitness(own, 3, 0, 1, 1);
        // what it has read once it knows: it may read that again, but not what is ahead of it
        OrderModels twice = of(2, write(0, 0, 1), read(1, 0, 0), read(1, 0, 1));
        due(5, "0 0, 0 1, 1 1", twice.runs(3), 3);
        dueWitness(twice, 3, 0, 1, 100, 100);
        dueWitness(twice, 3, 1, 1, 100, 101);
        dueWitness(twice, 3, 2, 1, 101, 101);
    }

    // "at place c (0 the first)": up to the last of the ROW
    private static void readGoesToTheLastOfTheRow() {
        OrderModels m = of(2, write(0, 1, 1), write(0, 1, 2), write(0, 1, 3), write(0, 1, 4), write(0, 1, 5),
                write(0, 1, 6), read(1, 1, 0));
        due(5, "seven places", m.runs(3), 7);
        for (int c = 0; c < 7; c++) {
            due(6, "the value at place " + c, m.outcome(3, c, 2), c);
            dueWitness(m, 3, c, 1, 2, 3, 4, 5, 6, 100 + c);
        }
    }

    // "READ: .. it LEARNS from it": of each VARIABLE, not of the one that is read alone
    private static void learnedFromWhatIsRead() {
        // who reads variable 1 as 1 goes on to read the other two: neither is 0 to it any more
        OrderModels m = of(2, write(0, 0, 1), write(0, 2, 5), write(0, 1, 1), read(1, 1, 0), skip(1, 2, 0, 1),
                read(1, 0, 0), read(1, 2, 1));
        dueRuns("all of it or none", m, 2, 2, 4, 2);
        due(6, "none of it", m.outcome(3, 0, 2), 0);
        due(6, "none of it", m.outcome(3, 0, 3), 0);
        due(6, "all of it", m.outcome(3, 1, 2), 1);
        due(6, "all of it", m.outcome(3, 1, 3), 5);
        dueRuns("message passing", messagePassing(), 3, 3, 4, 3);
    }

    // "(what is first KNOWS the first ones)": who reads a first one learns nothing more
    private static void firstOnesKnowTheFirstOnes() {
        OrderModels m = of(2, write(0, 0, 1), read(1, 1, 0), read(1, 0, 1));
        due(5, "old or new", m.runs(3), 2);
        dueWitness(m, 3, 0, 1, 100, 100);
        dueWitness(m, 3, 1, 1, 100, 101);
    }

    // "TO LEARN .. that one of both .. that is behind the other in the ROW": what is known is not lost
    private static void knownIsNotLost() {
        // thread 2 knows nothing of variable 0; who learned of it from thread 0 still knows it behind thread 2's write
        OrderModels m = of(3, write(0, 0, 1), write(0, 1, 1), read(1, 1, 0), read(1, 2, 1), read(1, 0, 1),
                write(2, 2, 1));
        due(5, "0 0, 0 1, 1 1", m.runs(3), 3);
        due(6, "read 1", m.outcome(3, 2, 2), 1);
        due(6, "then not 0", m.outcome(3, 2, 3), 1);
    }

    // "WRITE, SEND: one more comes to the ROW, at place c .. behind the one that the THREAD KNOWS"
    private static void writeComesBehindWhatIsKnown() {
        OrderModels own = of(1, write(0, 0, 1), send(0, 0, 0, 2), write(0, 0, 3));
        due(5, "one way", own.runs(3), 1);
        dueWitness(own, 3, 0, 1, 2, 3);
        // place 1 is behind the first one; ahead of another thread's that is not known it may come
        OrderModels two = of(2, write(0, 0, 1), write(1, 0, 2));
        dueWitness(two, 3, 0, 1, 101);
        dueWitness(two, 3, 1, 1, 102);
        // behind what was read
        OrderModels read = of(2, write(0, 0, 1), read(1, 0, 0), write(1, 0, 2));
        due(5, "read 0: either is last; read 1: its own is", read.runs(3), 3);
        dueWitness(read, 3, 0, 1, 100, 101);
        dueWitness(read, 3, 1, 1, 100, 102);
        dueWitness(read, 3, 2, 1, 101, 102);
    }

    // "(those from there on move one on)"
    private static void thoseFromThereOnMoveOn() {
        // 7 comes ahead of 5; the reader finds 0, 7, 5 or 0, 5, 7
        OrderModels m = of(3, write(0, 0, 5), write(1, 0, 7), read(2, 0, 0));
        due(5, "three to read, two to be last", m.runs(3), 6);
        dueWitness(m, 3, 0, 1, 101, 200);
        dueWitness(m, 3, 1, 1, 102, 200);
        dueWitness(m, 3, 2, 1, 101, 202);
        dueWitness(m, 3, 3, 1, 102, 201);
        dueWitness(m, 3, 4, 1, 101, 201);
        dueWitness(m, 3, 5, 1, 102, 202);
    }

    // "but not right ahead of one of an ADD"
    private static void writeIsNotRightAheadOfAnAdd() {
        OrderModels m = of(2, add(0, 0, 0, 1), write(1, 0, 5));
        due(5, "two outcomes", m.runs(3), 2);
        dueWitness(m, 3, 0, 0, 102);
        dueWitness(m, 3, 1, 101, 1);
        // the same for a SEND, and behind a WRITE that an ADD stands behind
        OrderModels chain = of(2, write(0, 0, 3), add(0, 0, 0, 1), send(1, 0, 0, 5));
        due(5, "ahead of both, behind both, between them by the add", chain.runs(3), 3);
        dueWitness(chain, 3, 0, 1, 1, 101);
        dueWitness(chain, 3, 1, 1, 1, 103);
        dueWitness(chain, 3, 2, 1, 102, 2);
    }

    // "ADD: of one at place c .. right behind which none of an ADD stands"
    private static void addIsOfOneThatHasNoAddBehind() {
        dueWitness(twoAdds(), 3, 0, 0, 101);
        dueWitness(twoAdds(), 3, 1, 100, 1);
        // a WRITE behind it is no ADD: it may come between
        OrderModels m = of(2, write(0, 0, 5), add(1, 0, 0, 1));
        due(5, "two outcomes", m.runs(3), 2);
        dueWitness(m, 3, 0, 1, 100);
        dueWitness(m, 3, 1, 1, 101);
        due(6, "the write is last", m.outcome(3, 0, 8), 5);
        due(6, "the add is last", m.outcome(3, 1, 8), 6);
    }

    // "ADD: of one .. not ahead of the one that the THREAD KNOWS: it LEARNS from it"
    private static void addIsNotAheadOfWhatIsKnown() {
        OrderModels own = of(1, write(0, 0, 5), add(0, 0, 0, 1), add(0, 0, 1, 1));
        due(5, "one way", own.runs(3), 1);
        dueWitness(own, 3, 0, 1, 1, 2);
        // an ADD passes on what it has learned, as a READ does
        OrderModels passing = of(2, write(0, 0, 1), write(0, 1, 1), add(1, 1, 0, 1), read(1, 0, 1));
        for (int i = 0; i < passing.runs(3); i++) {
            boolean stale = passing.outcome(3, i, 2) == 1 && passing.outcome(3, i, 3) == 0;
            due(6, "read 1, then not 0", stale ? 1 : 0, 0);
        }
    }

    // "the THREAD KNOWS it, then it KNOWS what the THREAD KNOWS"
    private static void writtenOneKnowsWhatTheThreadKnows() {
        // thread 1 has it from thread 0, and thread 2 from thread 1
        OrderModels m = of(3, write(0, 0, 1), read(1, 0, 0), send(1, 1, 0, 0), read(2, 1, 0), read(2, 0, 1));
        due(5, "outcomes", m.runs(3), m.runs(0));
        for (int i = 0; i < m.runs(3); i++) {
            boolean stale = m.outcome(3, i, 4) == 1 && m.outcome(3, i, 5) == 0;
            due(6, "known through thread 1", stale ? 1 : 0, 0);
        }
        // but only what it knew then: what thread 0 does later is not known with it
        OrderModels later = of(2, write(0, 1, 1), write(0, 0, 1), read(1, 1, 0), read(1, 0, 1));
        due(5, "all four", later.runs(3), 4);
    }

    // "FENCE: an ADD of 0 on the fourth VARIABLE (c is told as 0, there is but one way)"
    private static void fencesAreToldAsZero() {
        OrderModels m = of(4, fence(0), fence(1), fence(2), fence(3), fence(0), fence(1), fence(2));
        due(5, "one outcome", m.runs(3), 1);
        dueWitness(m, 3, 0, 0, 0, 100, 100, 200, 200, 300);
        dueOutcome("seven fences", m, 0, 0, 0, 0, 0, 0, 0, 0, 0, 0, 0, 0);
    }

    // "FENCE: an ADD of 0 on the fourth VARIABLE": the later one learns what the earlier one knew, not the other way
    private static void fencesLearnFromEachOther() {
        OrderModels m = of(2, write(0, 0, 1), fence(0), fence(1), read(1, 0, 0));
        due(5, "old or new", m.runs(3), 2);
        dueWitness(m, 3, 0, 1, 100, 0, 100);
        dueWitness(m, 3, 1, 1, 0, 100, 101);
        dueRuns("store buffering, fenced", storeBufferingFenced(), 3, 3, 3, 3);
        // one fence alone learns nothing
        OrderModels one = of(2, write(0, 0, 1), fence(0), read(0, 1, 0), write(1, 1, 1), read(1, 0, 0));
        due(5, "one fence", one.runs(3), 4);
    }

    // "a fourth one, FENCES alone have it": its ADD is on no VARIABLE and no REGISTER of the OUTCOME
    private static void fenceLeavesRegistersAlone() {
        OrderModels m = of(1, write(0, 0, 5), read(0, 0, 0), read(0, 0, 1), fence(0));
        dueOutcome("behind a fence", m, 0, 5, 5, 0, 0, 0, 0, 0, 0, 5, 0, 0);
    }

    // "SKIP: c 0."
    private static void skipIsToldAsZero() {
        OrderModels m = of(4, write(3, 0, 1), skip(3, 3, 0, 0), write(3, 0, 2), skip(3, 1, 0, 1), write(3, 0, 3));
        dueWitness(m, 3, 0, 301, 300, 302, 300);
        dueValue("passed over", m, 0, 8, 2);
    }

    // "In the end a VARIABLE is the last one in its ROW.": not what was written last
    private static void lastInTheRowIsTheVariable() {
        OrderModels two = of(2, write(0, 2, 1), write(1, 2, 2));
        dueWitness(two, 3, 0, 1, 101);
        due(6, "ahead of the first", two.outcome(3, 0, 10), 1);
        OrderModels twice = twoWritesTwice();
        due(5, "both first writes last", twice.runs(3), 4);
        due(6, "of variable 0", twice.outcome(3, 0, 8), 1);
        due(6, "of variable 1", twice.outcome(3, 0, 9), 1);
    }
}
