import java.util.Arrays;

/**
 * Lists all outcomes of small programs of threads under four models of memory, each model by its runs and by the
 * graphs that its rules let stand.
 *
 * <p>Inside, an action is known by its id, its place in the order of adding, and a written value by its source: 0 is
 * the first value of a variable, id + 1 what the action with that id wrote. Sets of actions are masks of ids.
 */
public final class OrderModels {
    public static final int NONE = -1;

    private static final int NO_VALUE = -1000;
    private static final int MODELS = 4;
    private static final int IN_TURN = 0;
    private static final int ONE_BUFFER = 1;
    private static final int MANY_BUFFERS = 2;
    private static final int KNOWING = 3;

    private static final int READ = 0;
    private static final int WRITE = 1;
    private static final int SEND = 2;
    private static final int ADD = 3;
    private static final int FENCE = 4;
    private static final int SKIP = 5;
    private static final int KINDS = 6;

    private static final int THREADS = 4;
    private static final int ACTIONS = 7;
    private static final int VARIABLES = 3;
    private static final int ROWS = 4;
    private static final int FENCE_ROW = 3;
    private static final int EACH_REGISTERS = 2;
    private static final int REGISTERS = 8;
    private static final int WHATS = 11;
    private static final int MOST_NUMBER = 9;
    private static final int MOST_SKIPPED = 3;
    /** With buffers an action is a step, and what it wrote goes from its buffer in another. */
    private static final int MOST_STEPS = 2 * ACTIONS;
    private static final int STEP_THREAD = 100;

    /** A value is a sum of at most seven numbers, so -63 .. 63: seven bits hold it with this added. */
    private static final int BIAS = 64;
    private static final int VALUE_BITS = 7;
    private static final int VALUE_MASK = 127;

    private static final int SOURCE_BITS = 3;
    private static final int SOURCE_MASK = 7;
    private static final int ALL_SOURCES_BITS = 21;
    private static final int MEMORY_BITS = 9;

    private final Program program;
    private final BufferWalk bufferWalk;
    private final KnowledgeWalk knowledgeWalk;
    private final GraphSearch graphSearch;
    private final OutcomeSet[] byRuns;
    private final OutcomeSet[] byGraphs;

    public OrderModels() {
        program = new Program();
        Progress progress = new Progress(program);
        StateSet seen = new StateSet();
        bufferWalk = new BufferWalk(program, progress, seen);
        knowledgeWalk = new KnowledgeWalk(program, progress, seen);
        graphSearch = new GraphSearch(program, progress);
        byRuns = new OutcomeSet[MODELS];
        byGraphs = new OutcomeSet[MODELS];
        for (int model = 0; model < MODELS; model++) {
            boolean buffers = model == ONE_BUFFER || model == MANY_BUFFERS;
            byRuns[model] = new OutcomeSet(buffers ? MOST_STEPS : ACTIONS);
            byGraphs[model] = new OutcomeSet(0);
        }
    }

    public int thread() {
        int added = program.addThread();
        if (added != NONE) {
            forget();
        }
        return added;
    }

    public int action(int thread, int kind, int x, int register, int v) {
        if (!isAction(kind, x, register, v)) {
            return NONE;
        }
        int length = program.addAction(thread, kind, x, register, v);
        if (length != NONE) {
            forget();
        }
        return length;
    }

    public int clear() {
        int threads = program.threads;
        program.empty();
        forget();
        return threads;
    }

    public int runs(int model) {
        return isModel(model) ? foundByRuns(model).size : NONE;
    }

    public int outcome(int model, int i, int what) {
        return isModel(model) ? foundByRuns(model).valueOf(i, what) : NO_VALUE;
    }

    public int witness(int model, int i, int k) {
        return isModel(model) ? foundByRuns(model).stepOf(i, k) : NONE;
    }

    public int orders(int model) {
        return isModel(model) ? foundByGraphs(model).size : NONE;
    }

    public int ordered(int model, int i, int what) {
        return isModel(model) ? foundByGraphs(model).valueOf(i, what) : NO_VALUE;
    }

    public int graphs(int model) {
        return isModel(model) ? foundByGraphs(model).standing : NONE;
    }

    public int beyond(int model, int other) {
        if (!isModel(model) || !isModel(other)) {
            return NONE;
        }
        return model == other ? 0 : foundByRuns(model).countMissingIn(foundByRuns(other));
    }

    public int races() {
        foundByRuns(IN_TURN);
        int ends = 0;
        for (int a = 0; a < program.actions; a++) {
            ends += Integer.bitCount(bufferWalk.racing[a]);
        }
        return ends >> 1;
    }

    public int race(int thread, int i, int other, int j) {
        int a = program.idAt(thread, i);
        int b = program.idAt(other, j);
        if (a == NONE || b == NONE || thread == other) {
            return NONE;
        }
        foundByRuns(IN_TURN);
        return isIn(bufferWalk.racing[a], b) ? 1 : 0;
    }

    private static boolean isModel(int model) {
        return model >= 0 && model < MODELS;
    }

    private static boolean isIn(int set, int a) {
        return (set >> a & 1) != 0;
    }

    private static boolean isAction(int kind, int x, int register, int v) {
        boolean variable = x >= 0 && x < VARIABLES;
        boolean cell = register >= 0 && register < EACH_REGISTERS;
        boolean number = v >= -MOST_NUMBER && v <= MOST_NUMBER;
        switch (kind) {
            case READ:
                return variable && cell && v == 0;
            case WRITE:
                return variable && register == 0 && number;
            case SEND:
            case ADD:
                return variable && cell && number;
            case FENCE:
                return x == 0 && register == 0 && v == 0;
            case SKIP:
                return x >= 1 && x <= MOST_SKIPPED && cell && number;
            default:
                return false;
        }
    }

    private void forget() {
        for (int model = 0; model < MODELS; model++) {
            byRuns[model].ready = false;
            byGraphs[model].ready = false;
        }
    }

    private OutcomeSet foundByRuns(int model) {
        OutcomeSet found = byRuns[model];
        if (!found.ready) {
            if (model == KNOWING) {
                knowledgeWalk.walk(found);
            } else {
                bufferWalk.walk(model, found);
            }
            found.ready = true;
        }
        return found;
    }

    private OutcomeSet foundByGraphs(int model) {
        OutcomeSet found = byGraphs[model];
        if (!found.ready) {
            graphSearch.search(model, found);
            found.ready = true;
        }
        return found;
    }

    /** The threads and their actions. Ids rise within a thread, as actions come only at a thread's end. */
    private static final class Program {
        private final int[] lengths = new int[THREADS];
        private final int[] ids = new int[THREADS * ACTIONS];
        final int[] threadOf = new int[ACTIONS];
        final int[] placeOf = new int[ACTIONS];
        final int[] kindOf = new int[ACTIONS];
        final int[] variableOf = new int[ACTIONS];
        final int[] cellOf = new int[ACTIONS];
        final int[] numberOf = new int[ACTIONS];
        final int[] ofThread = new int[THREADS];
        final int[] ofKind = new int[KINDS];
        final int[] onVariable = new int[VARIABLES];
        int threads;
        int actions;

        void empty() {
            threads = 0;
            actions = 0;
            Arrays.fill(lengths, 0);
            Arrays.fill(ofThread, 0);
            Arrays.fill(ofKind, 0);
            Arrays.fill(onVariable, 0);
        }

        int addThread() {
            if (threads >= THREADS) {
                return NONE;
            }
            threads++;
            return threads - 1;
        }

        int addAction(int thread, int kind, int x, int register, int v) {
            if (thread < 0 || thread >= threads || actions >= ACTIONS) {
                return NONE;
            }
            int a = actions;
            int bit = 1 << a;
            ids[thread * ACTIONS + lengths[thread]] = a;
            threadOf[a] = thread;
            placeOf[a] = lengths[thread];
            kindOf[a] = kind;
            variableOf[a] = x;
            cellOf[a] = thread * EACH_REGISTERS + register;
            numberOf[a] = v;
            ofThread[thread] |= bit;
            ofKind[kind] |= bit;
            if (kind < FENCE) {
                onVariable[x] |= bit;
            }
            actions++;
            lengths[thread]++;
            return lengths[thread];
        }

        int idAt(int thread, int place) {
            if (thread < 0 || thread >= threads || place < 0 || place >= lengths[thread]) {
                return NONE;
            }
            return ids[thread * ACTIONS + place];
        }

        boolean takesValue(int a) {
            return kindOf[a] == READ || kindOf[a] == ADD;
        }

        /** WRITES and SENDS: what the models let wait, unlike ADDS. */
        int stores() {
            return ofKind[WRITE] | ofKind[SEND];
        }

        int writersOf(int row) {
            return row == FENCE_ROW ? ofKind[FENCE] : onVariable[row] & ~ofKind[READ];
        }

        int rowOf(int a) {
            return kindOf[a] < FENCE ? variableOf[a] : FENCE_ROW;
        }

        int ownBefore(int a) {
            return ofThread[threadOf[a]] & ((1 << a) - 1);
        }

        int ownAfter(int a) {
            return ofThread[threadOf[a]] & ~((2 << a) - 1);
        }

        /** The actions that a is a race with, if both are ever next at a time. */
        int rivalsOf(int a) {
            int kind = kindOf[a];
            if (kind >= FENCE) {
                return 0;
            }
            int rivals = onVariable[variableOf[a]] & ~ofThread[threadOf[a]];
            if (kind == READ) {
                return rivals & ~ofKind[READ];
            }
            return kind == ADD ? rivals & ~ofKind[ADD] : rivals;
        }
    }

    /** What the threads have done so far: the part that runs of every model and graphs have in common. */
    private static final class Progress {
        private final Program program;
        final int[] places = new int[THREADS];
        final int[] registers = new int[REGISTERS];
        final int[] values = new int[ACTIONS + 1];
        int done;
        long sources;

        Progress(Program program) {
            this.program = program;
        }

        void begin() {
            Arrays.fill(places, 0);
            Arrays.fill(registers, 0);
            done = 0;
            sources = 0;
        }

        int next(int thread) {
            return program.idAt(thread, places[thread]);
        }

        int registerOf(int a) {
            return registers[program.cellOf[a]];
        }

        void perform(int a, int source) {
            int cell = program.cellOf[a];
            int number = program.numberOf[a];
            int passed = 1;
            switch (program.kindOf[a]) {
                case READ:
                    registers[cell] = values[source];
                    break;
                case WRITE:
                    values[a + 1] = number;
                    break;
                case SEND:
                    values[a + 1] = registers[cell] + number;
                    break;
                case ADD:
                    registers[cell] = values[source];
                    values[a + 1] = registers[cell] + number;
                    break;
                case SKIP:
                    passed += registers[cell] == number ? 0 : program.variableOf[a];
                    break;
                default:
                    break;
            }
            places[program.threadOf[a]] += passed;
            done |= 1 << a;
            sources |= (long) source << (SOURCE_BITS * a);
        }

        void undo(int a, int oldRegister) {
            registers[program.cellOf[a]] = oldRegister;
            places[program.threadOf[a]] = program.placeOf[a];
            done &= ~(1 << a);
            sources &= ~((long) SOURCE_MASK << (SOURCE_BITS * a));
        }

        boolean isWritten(int source) {
            return source == 0 || isIn(done, source - 1);
        }

        /**
         * What has been done, and from where, tells the registers, the written values and the places of the threads
         * too: these need not be in a state's key.
         */
        long key() {
            return (sources << ACTIONS) | done;
        }

        long registersKey() {
            long key = 0;
            for (int r = 0; r < REGISTERS; r++) {
                key = (key << VALUE_BITS) | (registers[r] + BIAS);
            }
            return key;
        }

        int variablesKey(int source0, int source1, int source2) {
            int key = values[source0] + BIAS;
            key = (key << VALUE_BITS) | (values[source1] + BIAS);
            return (key << VALUE_BITS) | (values[source2] + BIAS);
        }
    }

    /** A set of keys; its rows are kept and used again by every walk. */
    private static final class StateSet {
        private static final int LEAST_ROOM = 256;
        private static final int MOST_KEYS = 1 << 20;
        private static final long SPREADER = 0x9E3779B97F4A7C15L;
        private static final int SPREAD_SHIFT = 40;

        private long[] keys = new long[0];
        private int[] slots = new int[0];
        private int size;
        private int room;

        void empty() {
            size = 0;
            makeRoom(LEAST_ROOM);
        }

        /** Whether the key was not there. */
        boolean add(long key) {
            int slot = slotOf(key);
            if (slots[slot] != 0 || size >= MOST_KEYS) {
                return false;
            }
            if (size >= keys.length) {
                keys = Arrays.copyOf(keys, Math.max(LEAST_ROOM, 2 * size));
            }
            keys[size] = key;
            size++;
            slots[slot] = size;
            if (2 * size > room) {
                makeRoom(2 * room);
            }
            return true;
        }

        private void makeRoom(int wanted) {
            room = wanted;
            if (slots.length < room) {
                slots = new int[room];
            } else {
                for (int slot = 0; slot < room; slot++) {
                    slots[slot] = 0;
                }
            }
            for (int i = 0; i < size; i++) {
                slots[slotOf(keys[i])] = i + 1;
            }
        }

        /** The slot that holds the key, or the empty one where it belongs: half of them are always empty. */
        private int slotOf(long key) {
            int slot = (int) ((key * SPREADER) >>> SPREAD_SHIFT) & (room - 1);
            for (int n = 0; n < room; n++) {
                int held = slots[slot];
                if (held == 0 || keys[held - 1] == key) {
                    return slot;
                }
                slot = (slot + 1) & (room - 1);
            }
            return slot;
        }
    }

    /** Outcomes in rising order, each with the first run that was told for it. */
    private static final class OutcomeSet {
        private static final int LEAST_ROOM = 8;
        private static final int MOST_HALVINGS = 32;

        private final int stepsEach;
        private long[] registers = new long[0];
        private int[] variables = new int[0];
        private int[] lengths = new int[0];
        private int[] steps = new int[0];
        private int[] order = new int[0];
        int size;
        int standing;
        boolean ready;

        OutcomeSet(int stepsEach) {
            this.stepsEach = stepsEach;
        }

        void begin() {
            size = 0;
            standing = 0;
        }

        void addGraph(long registersKey, int variablesKey) {
            standing++;
            add(registersKey, variablesKey);
        }

        void addRun(long registersKey, int variablesKey, int[] path, int length) {
            if (!add(registersKey, variablesKey)) {
                return;
            }
            int row = size - 1;
            lengths[row] = Math.min(Math.min(length, path.length), stepsEach);
            for (int k = 0; k < lengths[row]; k++) {
                steps[row * stepsEach + k] = path[k];
            }
        }

        /** Whether the outcome was not there. */
        private boolean add(long registersKey, int variablesKey) {
            int place = firstNotLess(registersKey, variablesKey);
            if (isAt(place, registersKey, variablesKey)) {
                return false;
            }
            if (size >= order.length) {
                grow();
            }
            registers[size] = registersKey;
            variables[size] = variablesKey;
            lengths[size] = 0;
            System.arraycopy(order, place, order, place + 1, size - place);
            order[place] = size;
            size++;
            return true;
        }

        private void grow() {
            int room = Math.max(LEAST_ROOM, 2 * size);
            registers = Arrays.copyOf(registers, room);
            variables = Arrays.copyOf(variables, room);
            lengths = Arrays.copyOf(lengths, room);
            order = Arrays.copyOf(order, room);
            steps = Arrays.copyOf(steps, room * stepsEach);
        }

        private int firstNotLess(long registersKey, int variablesKey) {
            int low = 0;
            int high = size;
            for (int n = 0; n < MOST_HALVINGS && low < high; n++) {
                int middle = (low + high) >> 1;
                int row = order[middle];
                boolean less = registers[row] < registersKey
                        || registers[row] == registersKey && variables[row] < variablesKey;
                if (less) {
                    low = middle + 1;
                } else {
                    high = middle;
                }
            }
            return low;
        }

        private boolean isAt(int place, long registersKey, int variablesKey) {
            if (place >= size) {
                return false;
            }
            int row = order[place];
            return registers[row] == registersKey && variables[row] == variablesKey;
        }

        int countMissingIn(OutcomeSet other) {
            int missing = 0;
            for (int row = 0; row < size; row++) {
                int place = other.firstNotLess(registers[row], variables[row]);
                if (!other.isAt(place, registers[row], variables[row])) {
                    missing++;
                }
            }
            return missing;
        }

        int valueOf(int i, int what) {
            if (i < 0 || i >= size || what < 0 || what >= WHATS) {
                return NO_VALUE;
            }
            int row = order[i];
            long key = what < REGISTERS ? registers[row] : variables[row];
            int behind = (what < REGISTERS ? REGISTERS : WHATS) - 1 - what;
            return (int) ((key >> (VALUE_BITS * behind)) & VALUE_MASK) - BIAS;
        }

        int stepOf(int i, int k) {
            if (i < 0 || i >= size) {
                return NONE;
            }
            int row = order[i];
            if (k < 0 || k >= lengths[row]) {
                return NONE;
            }
            return steps[row * stepsEach + k];
        }
    }

    /**
     * All runs of models 0 to 2. Steps are tried in the order of their numbers, so the first run that leads to a state
     * is the least one, and what can follow need be looked at only once.
     */
    private static final class BufferWalk {
        private final Program program;
        private final Progress progress;
        private final StateSet seen;
        private final int[] path = new int[MOST_STEPS];
        final int[] racing = new int[ACTIONS];
        private OutcomeSet found;
        private int model;
        /** Of each variable the source of its value. */
        private int memory;
        /** The actions whose values are in buffers. */
        private int held;

        BufferWalk(Program program, Progress progress, StateSet seen) {
            this.program = program;
            this.progress = progress;
            this.seen = seen;
        }

        void walk(int ofModel, OutcomeSet into) {
            model = ofModel;
            found = into;
            found.begin();
            seen.empty();
            progress.begin();
            memory = 0;
            held = 0;
            if (model == IN_TURN) {
                Arrays.fill(racing, 0);
            }
            spread(0);
        }

        private void spread(int depth) {
            long key = (progress.key() << MEMORY_BITS) | memory;
            if (!seen.add((key << ACTIONS) | held)) {
                return;
            }
            if (model == IN_TURN) {
                noteRaces();
            }
            boolean ended = true;
            for (int thread = 0; thread < program.threads; thread++) {
                if (goNext(thread, depth)) {
                    ended = false;
                }
                if (goFromBuffers(thread, depth)) {
                    ended = false;
                }
            }
            if (ended) {
                int variables = progress.variablesKey(sourceIn(0), sourceIn(1), sourceIn(2));
                found.addRun(progress.registersKey(), variables, path, depth);
            }
        }

        private boolean goNext(int thread, int depth) {
            int a = progress.next(thread);
            if (a == NONE || depth >= MOST_STEPS || waitsForBuffers(a)) {
                return false;
            }
            int oldRegister = progress.registerOf(a);
            int oldMemory = memory;
            int oldHeld = held;
            progress.perform(a, program.takesValue(a) ? sourceFor(a) : 0);
            keepWritten(a);
            path[depth] = thread * STEP_THREAD;
            spread(depth + 1);
            memory = oldMemory;
            held = oldHeld;
            progress.undo(a, oldRegister);
            return true;
        }

        private boolean waitsForBuffers(int a) {
            int kind = program.kindOf[a];
            return (kind == FENCE || kind == ADD) && (held & program.ofThread[program.threadOf[a]]) != 0;
        }

        private int sourceFor(int a) {
            int x = program.variableOf[a];
            int own = held & program.ofThread[program.threadOf[a]] & program.onVariable[x];
            for (int b = ACTIONS - 1; b >= 0 && own != 0; b--) {
                if (isIn(own, b)) {
                    return b + 1;
                }
            }
            return sourceIn(x);
        }

        private void keepWritten(int a) {
            int kind = program.kindOf[a];
            if (kind == ADD || model == IN_TURN && (kind == WRITE || kind == SEND)) {
                putIntoMemory(a);
            } else if (kind == WRITE || kind == SEND) {
                held |= 1 << a;
            }
        }

        private int sourceIn(int x) {
            return (memory >> (SOURCE_BITS * x)) & SOURCE_MASK;
        }

        private void putIntoMemory(int a) {
            int shift = SOURCE_BITS * program.variableOf[a];
            memory = (memory & ~(SOURCE_MASK << shift)) | ((a + 1) << shift);
        }

        private boolean goFromBuffers(int thread, int depth) {
            int own = held & program.ofThread[thread];
            if (own == 0) {
                return false;
            }
            if (model == ONE_BUFFER) {
                letGo(own, thread * STEP_THREAD + 1, depth);
                return true;
            }
            for (int x = 0; x < VARIABLES; x++) {
                letGo(own & program.onVariable[x], thread * STEP_THREAD + 1 + x, depth);
            }
            return true;
        }

        /** The first one of a buffer goes; ids rise within a thread, so it is the least one. */
        private void letGo(int buffer, int number, int depth) {
            if (buffer == 0 || depth >= MOST_STEPS) {
                return;
            }
            int first = buffer & -buffer;
            int oldMemory = memory;
            held &= ~first;
            putIntoMemory(Integer.bitCount(first - 1));
            path[depth] = number;
            spread(depth + 1);
            held |= first;
            memory = oldMemory;
        }

        private void noteRaces() {
            int nexts = 0;
            for (int thread = 0; thread < program.threads; thread++) {
                int a = progress.next(thread);
                nexts |= a == NONE ? 0 : 1 << a;
            }
            for (int a = 0; a < program.actions; a++) {
                if (isIn(nexts, a)) {
                    racing[a] |= nexts & program.rivalsOf(a);
                }
            }
        }
    }

    /**
     * All runs of model 3, in the order of their numbers like those of BufferWalk. What a thread or a written one knows
     * is held as the set of all written ones that it has learned of: of each variable it knows the last of these in
     * the row. The first one of a row is at place 0 and is not held.
     */
    private static final class KnowledgeWalk {
        private final Program program;
        private final Progress progress;
        private final StateSet seen;
        private final int[] path = new int[MOST_STEPS];
        private final int[] rows = new int[ROWS];
        private final int[] sizes = new int[ROWS];
        private final int[] learned = new int[THREADS];
        private final int[] told = new int[ACTIONS + 1];
        private OutcomeSet found;

        KnowledgeWalk(Program program, Progress progress, StateSet seen) {
            this.program = program;
            this.progress = progress;
            this.seen = seen;
        }

        void walk(OutcomeSet into) {
            found = into;
            found.begin();
            seen.empty();
            progress.begin();
            Arrays.fill(rows, 0);
            Arrays.fill(sizes, 0);
            Arrays.fill(learned, 0);
            spread(0);
        }

        private void spread(int depth) {
            if (!seen.add((progress.key() << ALL_SOURCES_BITS) | rowsKey())) {
                return;
            }
            boolean ended = true;
            for (int thread = 0; thread < program.threads; thread++) {
                int a = progress.next(thread);
                if (a != NONE) {
                    ended = false;
                    goNext(a, depth);
                }
            }
            if (ended) {
                int variables = progress.variablesKey(lastIn(0), lastIn(1), lastIn(2));
                found.addRun(progress.registersKey(), variables, path, depth);
            }
        }

        /** An action is in one row at most, so all rows one behind the other are seven sources at most. */
        private long rowsKey() {
            long key = 0;
            for (int row = 0; row < ROWS; row++) {
                key = (key << (SOURCE_BITS * sizes[row])) | rows[row];
            }
            return key;
        }

        private void goNext(int a, int depth) {
            switch (program.kindOf[a]) {
                case READ:
                    goRead(a, depth);
                    break;
                case WRITE:
                case SEND:
                    goWrite(a, depth);
                    break;
                case ADD:
                    goAdd(a, depth);
                    break;
                case FENCE:
                    take(a, lastIn(FENCE_ROW), sizes[FENCE_ROW] + 1, 0, depth);
                    break;
                default:
                    take(a, 0, 0, 0, depth);
                    break;
            }
        }

        private void goRead(int a, int depth) {
            int x = program.variableOf[a];
            for (int c = knownPlace(a); c <= sizes[x]; c++) {
                take(a, sourceAt(x, c), 0, c, depth);
            }
        }

        private void goWrite(int a, int depth) {
            int x = program.variableOf[a];
            for (int c = knownPlace(a) + 1; c <= sizes[x] + 1; c++) {
                if (!isAddAt(x, c)) {
                    take(a, 0, c, c, depth);
                }
            }
        }

        private void goAdd(int a, int depth) {
            int x = program.variableOf[a];
            for (int c = knownPlace(a); c <= sizes[x]; c++) {
                if (!isAddAt(x, c + 1)) {
                    take(a, sourceAt(x, c), c + 1, c, depth);
                }
            }
        }

        /** One step; the place is where its written one comes to the row, 0 if there is none. */
        private void take(int a, int source, int place, int c, int depth) {
            if (depth >= MOST_STEPS) {
                return;
            }
            int thread = program.threadOf[a];
            int row = program.rowOf(a);
            int oldRegister = progress.registerOf(a);
            int oldLearned = learned[thread];
            int oldRow = rows[row];
            int oldSize = sizes[row];
            progress.perform(a, source);
            learned[thread] |= told[source];
            if (place > 0) {
                insert(row, place, a + 1);
                learned[thread] |= 1 << a;
                told[a + 1] = learned[thread];
            }
            path[depth] = thread * STEP_THREAD + c;
            spread(depth + 1);
            sizes[row] = oldSize;
            rows[row] = oldRow;
            learned[thread] = oldLearned;
            progress.undo(a, oldRegister);
        }

        private void insert(int row, int place, int source) {
            int shift = SOURCE_BITS * (place - 1);
            int ahead = rows[row] & ((1 << shift) - 1);
            int behind = rows[row] >> shift;
            rows[row] = ahead | (source << shift) | (behind << (shift + SOURCE_BITS));
            sizes[row]++;
        }

        private int sourceAt(int row, int place) {
            if (place < 1 || place > sizes[row]) {
                return 0;
            }
            return (rows[row] >> (SOURCE_BITS * (place - 1))) & SOURCE_MASK;
        }

        private int lastIn(int row) {
            return sourceAt(row, sizes[row]);
        }

        private boolean isAddAt(int row, int place) {
            int source = sourceAt(row, place);
            return source != 0 && program.kindOf[source - 1] == ADD;
        }

        private int knownPlace(int a) {
            int row = program.variableOf[a];
            int known = learned[program.threadOf[a]];
            for (int place = sizes[row]; place > 0; place--) {
                if (isIn(known, sourceAt(row, place) - 1)) {
                    return place;
                }
            }
            return 0;
        }
    }

    /**
     * All graphs of a model. First FROM is chosen for each READ and ADD that is reached; a thread whose choice is not
     * yet written waits, so each choice is met once, and threads that wait in a ring are refused. Then the rows.
     */
    private static final class GraphSearch {
        private static final int MOST_CHOICES = 2 * ACTIONS;
        private static final int MOST_PLACED = ACTIONS + ROWS;

        private final Program program;
        private final Progress progress;
        private final int[] from = new int[ACTIONS];
        private final int[] waits = new int[THREADS];
        /** Of each variable the sources that ADDS are FROM: two can't both stand right behind one. */
        private final int[] taken = new int[VARIABLES];
        private final int[] own = new int[ACTIONS];
        private final int[] ownOnOne = new int[ACTIONS];
        private final int[] ownKept = new int[ACTIONS];
        private final int[] readers = new int[ACTIONS + 1];
        private final int[] firstReaders = new int[ROWS];
        private final int[] lasts = new int[ROWS];
        /** What is before an action by FROM, ROW or SEEN, in one go. */
        private final int[] before = new int[ACTIONS];
        private final int[] outerBefore = new int[ACTIONS];
        /** What an action HAPPENS before. */
        private final int[] happens = new int[ACTIONS];
        private OutcomeSet found;
        private int model;
        private int members;

        GraphSearch(Program program, Progress progress) {
            this.program = program;
            this.progress = progress;
        }

        void search(int ofModel, OutcomeSet into) {
            model = ofModel;
            found = into;
            found.begin();
            progress.begin();
            Arrays.fill(from, NONE);
            Arrays.fill(waits, NONE);
            Arrays.fill(taken, 0);
            for (int a = 0; a < program.actions; a++) {
                tellOwn(a);
            }
            choose(0);
        }

        private void tellOwn(int a) {
            int kind = program.kindOf[a];
            int left = 0;
            own[a] = program.ownBefore(a);
            ownOnOne[a] = 0;
            if (kind < FENCE) {
                ownOnOne[a] = own[a] & program.onVariable[program.variableOf[a]];
            }
            if (kind == READ) {
                left = program.stores();
            } else if (model == MANY_BUFFERS && (kind == WRITE || kind == SEND)) {
                left = program.stores() & ~program.onVariable[program.variableOf[a]];
            }
            ownKept[a] = own[a] & ~left;
        }

        private void choose(int depth) {
            if (depth > MOST_CHOICES) {
                return;
            }
            int thread = freeThread();
            if (thread == NONE) {
                if (allEnded()) {
                    noteReaders();
                    startRow(model == KNOWING ? FENCE_ROW : VARIABLES - 1, 0);
                }
                return;
            }
            int a = progress.next(thread);
            int source = waits[thread];
            if (!program.takesValue(a)) {
                take(a, 0, depth);
            } else if (source == NONE) {
                chooseSource(a, depth);
            } else {
                waits[thread] = NONE;
                take(a, source, depth);
                waits[thread] = source;
            }
        }

        private int freeThread() {
            for (int thread = 0; thread < program.threads; thread++) {
                if (progress.next(thread) != NONE && !isBlocked(thread)) {
                    return thread;
                }
            }
            return NONE;
        }

        private boolean isBlocked(int thread) {
            return waits[thread] != NONE && !progress.isWritten(waits[thread]);
        }

        private boolean allEnded() {
            for (int thread = 0; thread < program.threads; thread++) {
                if (progress.next(thread) != NONE) {
                    return false;
                }
            }
            return true;
        }

        private void take(int a, int source, int depth) {
            int oldRegister = progress.registerOf(a);
            progress.perform(a, source);
            choose(depth + 1);
            progress.undo(a, oldRegister);
        }

        private void chooseSource(int a, int depth) {
            int x = program.variableOf[a];
            int thread = program.threadOf[a];
            int oldTaken = taken[x];
            for (int source = 0; source <= program.actions; source++) {
                if (!mayBeFrom(a, source) || !canHappen(source, thread)) {
                    continue;
                }
                from[a] = source;
                taken[x] |= program.kindOf[a] == ADD ? 1 << source : 0;
                if (progress.isWritten(source)) {
                    take(a, source, depth);
                } else {
                    waits[thread] = source;
                    choose(depth + 1);
                    waits[thread] = NONE;
                }
                taken[x] = oldTaken;
                from[a] = NONE;
            }
        }

        private boolean mayBeFrom(int a, int source) {
            int x = program.variableOf[a];
            if (source > 0 && (source - 1 == a || !isIn(program.writersOf(x), source - 1))) {
                return false;
            }
            if (program.kindOf[a] == ADD && isIn(taken[x], source)) {
                return false;
            }
            return !isPast(a, source);
        }

        /** Whether an own action ahead on the variable wrote, or had its value from, what must be behind this one. */
        private boolean isPast(int a, int source) {
            int ahead = ownOnOne[a] & progress.done;
            for (int b = 0; b < a; b++) {
                if (isIn(ahead, b)) {
                    int shown = program.kindOf[b] == READ ? from[b] : b + 1;
                    if (shown > 0 && (source == 0 || isBehind(shown - 1, source))) {
                        return true;
                    }
                }
            }
            return false;
        }

        private boolean isBehind(int writer, int source) {
            return from[writer] == source || isIn(program.ownAfter(source - 1), writer);
        }

        /** Whether it is written, or may be: neither passed over nor behind one that waits for this thread. */
        private boolean canHappen(int source, int waiting) {
            if (progress.isWritten(source)) {
                return true;
            }
            int thread = program.threadOf[source - 1];
            if (program.placeOf[source - 1] < progress.places[thread]) {
                return false;
            }
            for (int n = 0; n < THREADS; n++) {
                if (thread == waiting) {
                    return false;
                }
                if (!isBlocked(thread)) {
                    return true;
                }
                thread = program.threadOf[waits[thread] - 1];
            }
            return false;
        }

        private void noteReaders() {
            members = progress.done & ~program.ofKind[SKIP];
            Arrays.fill(readers, 0);
            Arrays.fill(firstReaders, 0);
            Arrays.fill(before, 0);
            for (int a = 0; a < program.actions; a++) {
                if (isIn(members, a) && program.takesValue(a)) {
                    noteReader(a);
                }
            }
        }

        private void noteReader(int a) {
            int source = from[a];
            if (source > 0) {
                readers[source] |= 1 << a;
                before[a] = 1 << (source - 1);
            } else {
                firstReaders[program.variableOf[a]] |= 1 << a;
            }
        }

        /** Rows are laid from the last one down: the row of fences first, as all of HAPPENS is known with it. */
        private void startRow(int row, int depth) {
            if (model == KNOWING && row == FENCE_ROW - 1) {
                closeHappens();
            }
            if (row >= 0) {
                lay(row, 0, program.writersOf(row) & members, 0, firstReaders[row], depth);
            } else if (stands()) {
                int variables = progress.variablesKey(lasts[0], lasts[1], lasts[2]);
                found.addGraph(progress.registersKey(), variables);
            }
        }

        /** todo: who is still to come to the row; ahead: who is in it; seen: who is FROM one that is in it. */
        private void lay(int row, int last, int todo, int ahead, int seen, int depth) {
            if (depth > MOST_PLACED) {
                return;
            }
            if (todo == 0) {
                lasts[row] = last;
                startRow(row - 1, depth + 1);
                return;
            }
            int adds = row == FENCE_ROW ? 0 : todo & program.ofKind[ADD];
            int bound = adds & (last == 0 ? firstReaders[row] : readers[last]);
            int choices = bound != 0 ? bound : todo & ~adds;
            for (int w = 0; w < program.actions; w++) {
                // what is against the own order on one variable is a ring in every model: no need to go on
                if (isIn(choices, w) && (own[w] & todo) == 0 && (seen & program.ownAfter(w)) == 0) {
                    int bit = 1 << w;
                    before[w] = ahead | (seen & ~bit);
                    lay(row, w + 1, todo & ~bit, ahead | bit, seen | readers[w + 1], depth + 1);
                }
            }
        }

        private boolean stands() {
            switch (model) {
                case IN_TURN:
                    return hasNoRing(own, before, members);
                case KNOWING:
                    return isKnownInOrder();
                default:
                    tellOuter();
                    return hasNoRing(ownOnOne, before, members & ~program.ofKind[FENCE])
                            && hasNoRing(ownKept, outerBefore, members);
            }
        }

        /** An ADD stands behind what it is FROM in the row, so only to READS can one of the same thread be left out. */
        private void tellOuter() {
            for (int a = 0; a < program.actions; a++) {
                boolean read = program.kindOf[a] == READ;
                outerBefore[a] = read ? before[a] & ~program.ofThread[program.threadOf[a]] : before[a];
            }
        }

        /** Takes away what nothing is before, as long as there is such: what is left at last is on or behind a ring. */
        private boolean hasNoRing(int[] first, int[] second, int among) {
            int left = among;
            for (int n = 0; n < ACTIONS && left != 0; n++) {
                for (int a = 0; a < program.actions; a++) {
                    if (((first[a] | second[a]) & left) == 0) {
                        left &= ~(1 << a);
                    }
                }
            }
            return left == 0;
        }

        private void closeHappens() {
            for (int a = 0; a < program.actions; a++) {
                happens[a] = (program.ownAfter(a) & members) | readers[a + 1];
                if (program.kindOf[a] == FENCE) {
                    int ahead = before[a] | (1 << a);
                    happens[a] |= members & program.ofKind[FENCE] & ~ahead;
                }
            }
            for (int middle = 0; middle < program.actions; middle++) {
                for (int a = 0; a < program.actions; a++) {
                    if (isIn(happens[a], middle)) {
                        happens[a] |= happens[middle];
                    }
                }
            }
        }

        /**
         * Of a writer, before is all that goes to it by one or more. What else goes to a READ goes to what it is FROM,
         * which HAPPENS before whatever the READ does: it is met there.
         */
        private boolean isKnownInOrder() {
            for (int a = 0; a < program.actions; a++) {
                if (isIn(members, a) && (before[a] & happens[a]) != 0) {
                    return false;
                }
            }
            return true;
        }
    }
}
