import java.util.ArrayList;
import java.util.Arrays;
import java.util.HashSet;
import java.util.List;
import java.util.Set;
import java.util.TreeMap;
import java.util.TreeSet;

/**
 * The document's words once more, as literally and as slowly as can be: every run is walked to its end, every graph is
 * guessed whole and then weighed. The tests hold OrderModels against it.
 */
final class Reference {
    static final int READ = 0, WRITE = 1, SEND = 2, ADD = 3, FENCE = 4, SKIP = 5;

    record Action(int thread, int kind, int x, int register, int v) {
        boolean writes() {
            return kind == WRITE || kind == SEND || kind == ADD;
        }

        boolean reads() {
            return kind == READ || kind == ADD;
        }

        boolean store() {
            return kind == WRITE || kind == SEND;
        }

        boolean onVariable() {
            return kind <= ADD;
        }
    }

    /** Outcomes as lists of eleven, in rising order. */
    static int compareLists(List<Integer> a, List<Integer> b) {
        for (int i = 0; i < Math.min(a.size(), b.size()); i++) {
            int c = Integer.compare(a.get(i), b.get(i));
            if (c != 0) {
                return c;
            }
        }
        return Integer.compare(a.size(), b.size());
    }

    final List<List<Action>> threads;
    /** By model: outcome to least run. */
    final List<TreeMap<List<Integer>, List<Integer>>> runs = new ArrayList<>();
    final List<TreeSet<List<Integer>>> orders = new ArrayList<>();
    final int[] graphs = new int[4];
    /** Pairs as thread, i, other, j, both ways round. */
    final Set<List<Integer>> races = new HashSet<>();
    long walked = 0;

    Reference(List<List<Action>> threads) {
        this.threads = threads;
        for (int model = 0; model < 4; model++) {
            runs.add(new TreeMap<>(Reference::compareLists));
            orders.add(new TreeSet<>(Reference::compareLists));
        }
    }

    // ---------------------------------------------------------------- runs

    static final class Written {
        final int value;
        final boolean add;
        Written[] knows = new Written[4];

        Written(int value, boolean add) {
            this.value = value;
            this.add = add;
        }
    }

    final class State {
        int[] next = new int[4];
        int[][] registers = new int[4][2];
        int[] variables = new int[3];
        /** By thread, by buffer: pairs of variable and value. */
        List<List<List<int[]>>> buffers = new ArrayList<>();
        List<List<Written>> rows = new ArrayList<>();
        Written[][] knows = new Written[4][4];

        State() {
            for (int t = 0; t < 4; t++) {
                List<List<int[]>> ofThread = new ArrayList<>();
                for (int b = 0; b < 3; b++) {
                    ofThread.add(new ArrayList<>());
                }
                buffers.add(ofThread);
            }
            for (int x = 0; x < 4; x++) {
                rows.add(new ArrayList<>());
            }
        }

        static State first(Reference of) {
            State s = of.new State();
            for (int x = 0; x < 4; x++) {
                s.rows.get(x).add(new Written(0, false));
            }
            for (int x = 0; x < 4; x++) {
                for (int y = 0; y < 4; y++) {
                    s.rows.get(x).get(0).knows[y] = s.rows.get(y).get(0);
                }
                for (int t = 0; t < 4; t++) {
                    s.knows[t][x] = s.rows.get(x).get(0);
                }
            }
            return s;
        }

        /** Written ones never change once they are there, so they may be shared. */
        State copy() {
            State s = new State();
            s.next = next.clone();
            s.variables = variables.clone();
            for (int t = 0; t < 4; t++) {
                s.registers[t] = registers[t].clone();
                s.knows[t] = knows[t].clone();
                s.rows.set(t, new ArrayList<>(rows.get(t)));
                for (int b = 0; b < 3; b++) {
                    s.buffers.get(t).set(b, new ArrayList<>(buffers.get(t).get(b)));
                }
            }
            return s;
        }

        Action nextOf(int t) {
            return next[t] < threads.get(t).size() ? threads.get(t).get(next[t]) : null;
        }

        void passSkip(Action a) {
            next[a.thread]++;
            if (registers[a.thread][a.register] != a.v) {
                next[a.thread] = Math.min(next[a.thread] + a.x, threads.get(a.thread).size());
            }
        }

        boolean buffersEmpty(int t) {
            for (List<int[]> b : buffers.get(t)) {
                if (!b.isEmpty()) {
                    return false;
                }
            }
            return true;
        }

        void learn(int t, Written from) {
            for (int y = 0; y < 4; y++) {
                List<Written> row = rows.get(y);
                if (row.indexOf(from.knows[y]) > row.indexOf(knows[t][y])) {
                    knows[t][y] = from.knows[y];
                }
            }
        }

        void come(int t, int x, int place, Written w) {
            rows.get(x).add(place, w);
            knows[t][x] = w;
            w.knows = knows[t].clone();
        }

        List<Integer> outcome(int model) {
            List<Integer> o = new ArrayList<>();
            for (int t = 0; t < 4; t++) {
                o.add(registers[t][0]);
                o.add(registers[t][1]);
            }
            for (int x = 0; x < 3; x++) {
                List<Written> row = rows.get(x);
                o.add(model == 3 ? row.get(row.size() - 1).value : variables[x]);
            }
            return o;
        }
    }

    void walkAll(int model) {
        walk(model, State.first(this), new ArrayList<>());
    }

    private void walk(int model, State s, List<Integer> path) {
        boolean any = false;
        if (model == 0) {
            noteRaces(s);
        }
        for (int t = 0; t < threads.size(); t++) {
            for (int c = 0; c < 9; c++) {
                State after = step(model, s, t, c);
                if (after != null) {
                    any = true;
                    path.add(100 * t + c);
                    walk(model, after, path);
                    path.remove(path.size() - 1);
                }
            }
        }
        if (!any) {
            walked++;
            List<Integer> o = s.outcome(model);
            List<Integer> old = runs.get(model).get(o);
            if (old == null || compareLists(path, old) < 0) {
                runs.get(model).put(o, new ArrayList<>(path));
            }
        }
    }

    private State step(int model, State s, int t, int c) {
        if (model == 0) {
            return c == 0 ? stepInTurn(s, t) : null;
        }
        return model == 3 ? stepKnowing(s, t, c) : stepBuffers(model, s, t, c);
    }

    private State stepInTurn(State old, int t) {
        Action a = old.nextOf(t);
        if (a == null) {
            return null;
        }
        State s = old.copy();
        if (a.kind == SKIP) {
            s.passSkip(a);
            return s;
        }
        s.next[t]++;
        if (a.reads()) {
            s.registers[t][a.register] = s.variables[a.x];
        }
        if (a.kind == WRITE) {
            s.variables[a.x] = a.v;
        } else if (a.kind == SEND || a.kind == ADD) {
            s.variables[a.x] = s.registers[t][a.register] + a.v;
        }
        return s;
    }

    private State stepBuffers(int model, State old, int t, int c) {
        State s = old.copy();
        if (c > 0) {
            if (c > (model == 1 ? 1 : 3) || s.buffers.get(t).get(c - 1).isEmpty()) {
                return null;
            }
            int[] gone = s.buffers.get(t).get(c - 1).remove(0);
            s.variables[gone[0]] = gone[1];
            return s;
        }
        Action a = old.nextOf(t);
        if (a == null || (a.kind == FENCE || a.kind == ADD) && !s.buffersEmpty(t)) {
            return null;
        }
        if (a.kind == ADD || a.kind == FENCE || a.kind == SKIP) {
            return stepInTurn(old, t);
        }
        s.next[t]++;
        List<int[]> buffer = s.buffers.get(t).get(model == 1 ? 0 : a.x);
        if (a.kind == READ) {
            int value = s.variables[a.x];
            for (int[] one : buffer) {
                if (one[0] == a.x) {
                    value = one[1];
                }
            }
            s.registers[t][a.register] = value;
        } else {
            buffer.add(new int[] {a.x, a.kind == WRITE ? a.v : s.registers[t][a.register] + a.v});
        }
        return s;
    }

    private State stepKnowing(State old, int t, int c) {
        Action a = old.nextOf(t);
        if (a == null) {
            return null;
        }
        State s = old.copy();
        if (a.kind == SKIP) {
            s.passSkip(a);
            return c == 0 ? s : null;
        }
        s.next[t]++;
        int x = a.kind == FENCE ? 3 : a.x;
        List<Written> row = s.rows.get(x);
        int known = row.indexOf(s.knows[t][x]);
        if (a.kind == FENCE) {
            if (c != 0) {
                return null;
            }
            s.learn(t, row.get(row.size() - 1));
            s.come(t, x, row.size(), new Written(0, true));
            return s;
        }
        if (a.kind == WRITE || a.kind == SEND) {
            if (c <= known || c > row.size() || c < row.size() && row.get(c).add) {
                return null;
            }
            s.come(t, x, c, new Written(a.kind == WRITE ? a.v : s.registers[t][a.register] + a.v, false));
            return s;
        }
        if (c < known || c >= row.size()) {
            return null;
        }
        if (a.kind == ADD && c + 1 < row.size() && row.get(c + 1).add) {
            return null;
        }
        Written from = row.get(c);
        s.registers[t][a.register] = from.value;
        s.learn(t, from);
        if (a.kind == ADD) {
            s.come(t, x, c + 1, new Written(from.value + a.v, true));
        }
        return s;
    }

    private void noteRaces(State s) {
        for (int t = 0; t < threads.size(); t++) {
            for (int u = 0; u < threads.size(); u++) {
                Action a = s.nextOf(t);
                Action b = s.nextOf(u);
                if (t != u && a != null && b != null && a.onVariable() && b.onVariable() && a.x == b.x
                        && (a.writes() || b.writes()) && !(a.kind == ADD && b.kind == ADD)) {
                    races.add(List.of(t, s.next[t], u, s.next[u]));
                }
            }
        }
    }

    // ---------------------------------------------------------------- graphs

    private final List<Action> all = new ArrayList<>();
    private boolean[] in;
    private int[] from;
    private int graphModel;

    /** Every set of actions, every FROM, every order of every row is guessed; -1 is the FIRST. */
    void guessAll(int model) {
        graphModel = model;
        all.clear();
        for (List<Action> thread : threads) {
            all.addAll(thread);
        }
        int n = all.size();
        for (int set = 0; set < 1 << n; set++) {
            in = new boolean[n];
            for (int a = 0; a < n; a++) {
                in[a] = (set >> a & 1) != 0;
            }
            from = new int[n];
            Arrays.fill(from, -2);
            guessFrom(0);
        }
    }

    private void guessFrom(int a) {
        if (a == all.size()) {
            guessValues();
            return;
        }
        if (!in[a] || !all.get(a).reads()) {
            guessFrom(a + 1);
            return;
        }
        for (int w = -1; w < all.size(); w++) {
            if (w == -1 || w != a && in[w] && all.get(w).writes() && all.get(w).x == all.get(a).x) {
                from[a] = w;
                guessFrom(a + 1);
            }
        }
        from[a] = -2;
    }

    /** Values are found by going through the actions as long as one more can be told. */
    private void guessValues() {
        int n = all.size();
        boolean[][] ring = new boolean[n][n];
        for (int a = 0; a < n; a++) {
            for (int b = 0; b < n; b++) {
                ring[a][b] = in[a] && in[b] && (ownBefore(a, b) || from[b] == a);
            }
        }
        if (hasRing(ring)) {
            return;
        }
        int[][] registers = new int[4][2];
        int[] next = new int[4];
        Integer[] written = new Integer[n];
        boolean[] happened = new boolean[n];
        boolean moved = true;
        while (moved) {
            moved = false;
            for (int t = 0; t < threads.size(); t++) {
                if (next[t] >= threads.get(t).size()) {
                    continue;
                }
                int id = idOf(t, next[t]);
                Action a = all.get(id);
                if (!in[id]) {
                    return;
                }
                if (a.reads() && from[id] >= 0 && written[from[id]] == null) {
                    continue;
                }
                moved = true;
                happened[id] = true;
                next[t]++;
                if (a.reads()) {
                    registers[t][a.register] = from[id] < 0 ? 0 : written[from[id]];
                }
                if (a.writes()) {
                    written[id] = a.kind == WRITE ? a.v : registers[t][a.register] + a.v;
                }
                if (a.kind == SKIP && registers[t][a.register] != a.v) {
                    next[t] = Math.min(next[t] + a.x, threads.get(t).size());
                }
            }
        }
        if (Arrays.equals(happened, in)) {
            guessRows(0, new ArrayList<>(), registers, written);
        }
    }

    private int idOf(int t, int i) {
        int id = i;
        for (int u = 0; u < t; u++) {
            id += threads.get(u).size();
        }
        return id;
    }

    private boolean ownBefore(int a, int b) {
        return all.get(a).thread == all.get(b).thread && a < b;
    }

    private void guessRows(int x, List<List<Integer>> rows, int[][] registers, Integer[] written) {
        if (x == (graphModel == 3 ? 4 : 3)) {
            weigh(rows, registers, written);
            return;
        }
        List<Integer> members = new ArrayList<>();
        for (int a = 0; a < all.size(); a++) {
            Action act = all.get(a);
            if (in[a] && (x == 3 ? act.kind == FENCE : act.writes() && act.x == x)) {
                members.add(a);
            }
        }
        permute(members, new ArrayList<>(), x, rows, registers, written);
    }

    private void permute(List<Integer> rest, List<Integer> row, int x, List<List<Integer>> rows, int[][] registers,
            Integer[] written) {
        if (rest.isEmpty()) {
            rows.add(row);
            guessRows(x + 1, rows, registers, written);
            rows.remove(rows.size() - 1);
            return;
        }
        for (int i = 0; i < rest.size(); i++) {
            int a = rest.get(i);
            int ahead = row.isEmpty() ? -1 : row.get(row.size() - 1);
            if (x < 3 && all.get(a).kind == ADD && from[a] != ahead) {
                continue;
            }
            List<Integer> less = new ArrayList<>(rest);
            less.remove(i);
            List<Integer> more = new ArrayList<>(row);
            more.add(a);
            permute(less, more, x, rows, registers, written);
        }
    }

    private void weigh(List<List<Integer>> rows, int[][] registers, Integer[] written) {
        if (!stands(rows)) {
            return;
        }
        graphs[graphModel]++;
        List<Integer> o = new ArrayList<>();
        for (int t = 0; t < 4; t++) {
            o.add(registers[t][0]);
            o.add(registers[t][1]);
        }
        for (int x = 0; x < 3; x++) {
            List<Integer> row = rows.get(x);
            o.add(row.isEmpty() ? 0 : written[row.get(row.size() - 1)]);
        }
        orders.get(graphModel).add(o);
    }

    /** Nodes are the actions and, behind them, the FIRST of each row. */
    private boolean stands(List<List<Integer>> rows) {
        int n = all.size();
        int nodes = n + 4;
        int[] source = new int[n];
        Arrays.fill(source, -2);
        boolean[][] own = new boolean[nodes][nodes];
        boolean[][] fromBefore = new boolean[nodes][nodes];
        boolean[][] rowBefore = new boolean[nodes][nodes];
        boolean[][] seenBefore = new boolean[nodes][nodes];
        for (int x = 0; x < rows.size(); x++) {
            List<Integer> row = new ArrayList<>(rows.get(x));
            row.add(0, n + x);
            for (int i = 0; i < row.size(); i++) {
                for (int j = i + 1; j < row.size(); j++) {
                    rowBefore[row.get(i)][row.get(j)] = true;
                }
                if (x == 3 && i > 0) {
                    source[row.get(i)] = row.get(i - 1);
                }
            }
        }
        for (int a = 0; a < n; a++) {
            if (in[a] && all.get(a).reads()) {
                source[a] = from[a] < 0 ? n + all.get(a).x : from[a];
            }
            for (int b = 0; b < n; b++) {
                own[a][b] = in[a] && in[b] && all.get(a).kind != SKIP && all.get(b).kind != SKIP && ownBefore(a, b);
            }
        }
        for (int a = 0; a < n; a++) {
            if (source[a] >= 0) {
                fromBefore[source[a]][a] = true;
                for (int b = 0; b < nodes; b++) {
                    seenBefore[a][b] = rowBefore[source[a]][b] && a != b;
                }
            }
        }
        boolean[][] eco = join(fromBefore, join(rowBefore, seenBefore));
        if (graphModel == 0) {
            return !hasRing(join(own, eco));
        }
        if (graphModel == 3) {
            boolean[][] happens = close(join(own, fromBefore));
            boolean[][] back = close(eco);
            for (int a = 0; a < nodes; a++) {
                for (int b = 0; b < nodes; b++) {
                    if (happens[a][b] && back[b][a]) {
                        return false;
                    }
                }
            }
            return true;
        }
        boolean[][] near = new boolean[nodes][nodes];
        boolean[][] kept = new boolean[nodes][nodes];
        boolean[][] outer = new boolean[nodes][nodes];
        for (int a = 0; a < nodes; a++) {
            for (int b = 0; b < nodes; b++) {
                boolean acts = a < n && b < n;
                outer[a][b] = fromBefore[a][b] && (!acts || all.get(a).thread != all.get(b).thread);
                if (acts && own[a][b]) {
                    Action p = all.get(a);
                    Action q = all.get(b);
                    near[a][b] = p.onVariable() && q.onVariable() && p.x == q.x;
                    boolean left = p.store() && q.kind == READ
                            || graphModel == 2 && p.store() && q.store() && p.x != q.x;
                    kept[a][b] = !left;
                }
            }
        }
        return !hasRing(join(near, eco)) && !hasRing(join(join(kept, outer), join(rowBefore, seenBefore)));
    }

    private static boolean[][] join(boolean[][] a, boolean[][] b) {
        boolean[][] c = new boolean[a.length][a.length];
        for (int i = 0; i < a.length; i++) {
            for (int j = 0; j < a.length; j++) {
                c[i][j] = a[i][j] || b[i][j];
            }
        }
        return c;
    }

    private static boolean[][] close(boolean[][] a) {
        boolean[][] c = join(a, a);
        for (int k = 0; k < c.length; k++) {
            for (int i = 0; i < c.length; i++) {
                for (int j = 0; j < c.length; j++) {
                    c[i][j] |= c[i][k] && c[k][j];
                }
            }
        }
        return c;
    }

    private static boolean hasRing(boolean[][] a) {
        boolean[][] c = close(a);
        for (int i = 0; i < c.length; i++) {
            if (c[i][i]) {
                return true;
            }
        }
        return false;
    }
}
