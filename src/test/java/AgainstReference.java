import java.util.ArrayList;
import java.util.List;
import java.util.Random;

/** Many small programs, told to OrderModels and to the slow Reference: all answers must be the same (promises 5 to 13). */
public final class AgainstReference {
    private static int wrong = 0;

    private static void due(String program, String call, int got, int want) {
        if (got != want) {
            wrong++;
            if (wrong < 50) {
                System.out.println(program + ": " + call + " answered " + got + ", due is " + want);
            }
        }
    }

    /** Without arguments what .ci/run takes; else how many programs, of how many actions, and a seed. */
    public static void main(String[] args) {
        if (args.length == 3) {
            compareMany(Integer.parseInt(args[0]), Integer.parseInt(args[1]), Long.parseLong(args[2]));
        } else {
            compareMany(1500, 5, 20261115L);
            compareMany(40, 6, 5L);
        }
        System.out.println(wrong == 0 ? "all answers are as due" : wrong + " answers are not as due");
        if (wrong != 0) {
            System.exit(1);
        }
    }

    private static void compareMany(int programs, int most, long seed) {
        Random random = new Random(seed);
        OrderModels models = new OrderModels();
        for (int n = 0; n < programs; n++) {
            List<List<Reference.Action>> threads = someProgram(random, most);
            models.clear();
            tell(models, threads);
            compare(models, threads);
        }
    }

    private static List<List<Reference.Action>> someProgram(Random random, int most) {
        int count = 1 + random.nextInt(4);
        List<List<Reference.Action>> threads = new ArrayList<>();
        for (int t = 0; t < count; t++) {
            threads.add(new ArrayList<>());
        }
        int variables = 1 + random.nextInt(3);
        int skips = random.nextInt(3);
        int actions = most > 5 ? most : random.nextInt(most + 1);
        for (int a = 0; a < actions; a++) {
            int t = random.nextInt(count);
            int kind = random.nextInt(skips == 0 ? 5 : 6);
            if (kind == 4 && random.nextInt(2) == 0) {
                kind = random.nextInt(4);
            }
            threads.get(t).add(someAction(random, t, kind, variables));
        }
        return threads;
    }

    private static Reference.Action someAction(Random random, int t, int kind, int variables) {
        int x = random.nextInt(variables);
        int register = random.nextInt(2);
        int v = random.nextInt(3) == 0 ? random.nextInt(19) - 9 : random.nextInt(3);
        switch (kind) {
            case Reference.READ:
                return new Reference.Action(t, kind, x, register, 0);
            case Reference.WRITE:
                return new Reference.Action(t, kind, x, 0, v);
            case Reference.FENCE:
                return new Reference.Action(t, kind, 0, 0, 0);
            case Reference.SKIP:
                return new Reference.Action(t, kind, 1 + random.nextInt(3), register, random.nextInt(3));
            default:
                return new Reference.Action(t, kind, x, register, v);
        }
    }

    private static void tell(OrderModels models, List<List<Reference.Action>> threads) {
        String program = threads.toString();
        for (int t = 0; t < threads.size(); t++) {
            due(program, "thread()", models.thread(), t);
        }
        // threads take turns, so that the order of adding is not the order of threads
        for (int i = 0; i < 7; i++) {
            for (int t = threads.size() - 1; t >= 0; t--) {
                if (i < threads.get(t).size()) {
                    Reference.Action a = threads.get(t).get(i);
                    due(program, "action", models.action(t, a.kind(), a.x(), a.register(), a.v()), i + 1);
                }
            }
        }
    }

    private static void compare(OrderModels models, List<List<Reference.Action>> threads) {
        Reference reference = new Reference(threads);
        String program = threads.toString();
        for (int model = 0; model < 4; model++) {
            reference.walkAll(model);
            reference.guessAll(model);
            compareRuns(models, reference, model, program);
            compareGraphs(models, reference, model, program);
        }
        compareBeyond(models, reference, program);
        compareRaces(models, reference, program);
    }

    private static void compareRuns(OrderModels models, Reference reference, int model, String program) {
        due(program, "runs(" + model + ")", models.runs(model), reference.runs.get(model).size());
        int i = 0;
        for (List<Integer> outcome : reference.runs.get(model).keySet()) {
            for (int what = 0; what < 11; what++) {
                String call = "outcome(" + model + ", " + i + ", " + what + ")";
                due(program, call, models.outcome(model, i, what), outcome.get(what));
            }
            List<Integer> run = reference.runs.get(model).get(outcome);
            for (int k = 0; k < 15; k++) {
                String call = "witness(" + model + ", " + i + ", " + k + ")";
                due(program, call, models.witness(model, i, k), k < run.size() ? run.get(k) : -1);
            }
            i++;
        }
        due(program, "outcome behind the last", models.outcome(model, i, 0), -1000);
        due(program, "witness behind the last", models.witness(model, i, 0), -1);
    }

    private static void compareGraphs(OrderModels models, Reference reference, int model, String program) {
        due(program, "orders(" + model + ")", models.orders(model), reference.orders.get(model).size());
        due(program, "graphs(" + model + ")", models.graphs(model), reference.graphs[model]);
        int i = 0;
        for (List<Integer> outcome : reference.orders.get(model)) {
            for (int what = 0; what < 11; what++) {
                String call = "ordered(" + model + ", " + i + ", " + what + ")";
                due(program, call, models.ordered(model, i, what), outcome.get(what));
            }
            i++;
        }
        due(program, "ordered behind the last", models.ordered(model, i, 0), -1000);
    }

    private static void compareBeyond(OrderModels models, Reference reference, String program) {
        for (int model = 0; model < 4; model++) {
            for (int other = 0; other < 4; other++) {
                int missing = 0;
                for (List<Integer> outcome : reference.runs.get(model).keySet()) {
                    missing += reference.runs.get(other).containsKey(outcome) ? 0 : 1;
                }
                due(program, "beyond(" + model + ", " + other + ")", models.beyond(model, other), missing);
            }
        }
    }

    private static void compareRaces(OrderModels models, Reference reference, String program) {
        due(program, "races()", models.races(), reference.races.size() / 2);
        for (int t = 0; t < 5; t++) {
            for (int u = 0; u < 5; u++) {
                for (int i = -1; i < 7; i++) {
                    for (int j = -1; j < 7; j++) {
                        String call = "race(" + t + ", " + i + ", " + u + ", " + j + ")";
                        due(program, call, models.race(t, i, u, j), dueRace(reference, t, i, u, j));
                    }
                }
            }
        }
    }

    private static int dueRace(Reference reference, int t, int i, int u, int j) {
        if (!isThere(reference, t, i) || !isThere(reference, u, j) || t == u) {
            return -1;
        }
        return reference.races.contains(List.of(t, i, u, j)) ? 1 : 0;
    }

    private static boolean isThere(Reference reference, int t, int i) {
        return t < reference.threads.size() && i >= 0 && i < reference.threads.get(t).size();
    }
}
