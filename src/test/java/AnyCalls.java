import java.util.Random;

/**
 * Runs of 512 calls with any arguments: none may throw, and what is refused changes nothing: a twin object that is told
 * only what was not refused must answer everything the same.
 */
public final class AnyCalls {
    private static final int[] ODD = {Integer.MIN_VALUE, -1000, -10, -9, -2, -1, 0, 1, 2, 3, 4, 5, 6, 7, 8, 9, 10, 11,
        14, 100, 1 << 20, Integer.MAX_VALUE - 1, Integer.MAX_VALUE};
    private static int wrong = 0;

    public static void main(String[] args) {
        Random random = new Random(512);
        for (int run = 0; run < 200; run++) {
            OrderModels models = new OrderModels();
            OrderModels twin = new OrderModels();
            for (int call = 0; call < 512; call++) {
                call(models, twin, random, run);
            }
        }
        System.out.println(wrong == 0 ? "all answers are as due" : wrong + " answers are not as due");
        if (wrong != 0) {
            System.exit(1);
        }
    }

    private static int any(Random random) {
        return random.nextInt(3) == 0 ? ODD[random.nextInt(ODD.length)] : random.nextInt(4);
    }

    private static void call(OrderModels m, OrderModels twin, Random random, int run) {
        int a = any(random);
        int b = any(random);
        int c = any(random);
        int d = any(random);
        int e = any(random);
        switch (random.nextInt(18)) {
            case 0:
                grow(m, twin, run);
                break;
            case 1:
                if (random.nextInt(8) == 0) {
                    due(run, "clear", m.clear(), twin.clear());
                }
                break;
            case 2:
            case 3:
            case 4:
            case 5:
            case 6:
                tell(m, twin, run, new int[] {a, random.nextInt(7), c, d, e});
                break;
            case 7:
                due(run, "runs", m.runs(a), twin.runs(a));
                break;
            case 8:
            case 9:
                due(run, "outcome", m.outcome(a, b, c), twin.outcome(a, b, c));
                break;
            case 10:
            case 11:
                due(run, "witness", m.witness(a, b, c), twin.witness(a, b, c));
                break;
            case 12:
                due(run, "orders", m.orders(a), twin.orders(a));
                break;
            case 13:
                due(run, "ordered", m.ordered(a, b, c), twin.ordered(a, b, c));
                break;
            case 14:
                due(run, "graphs", m.graphs(a), twin.graphs(a));
                break;
            case 15:
                due(run, "beyond", m.beyond(a, b), twin.beyond(a, b));
                break;
            case 16:
                due(run, "races", m.races(), twin.races());
                break;
            default:
                due(run, "race", m.race(a, b, c, d), twin.race(a, b, c, d));
                break;
        }
    }

    private static void tell(OrderModels m, OrderModels twin, int run, int[] a) {
        int got = m.action(a[0], a[1], a[2], a[3], a[4]);
        if (got != -1) {
            due(run, "action", got, twin.action(a[0], a[1], a[2], a[3], a[4]));
        }
    }

    private static void grow(OrderModels m, OrderModels twin, int run) {
        int got = m.thread();
        if (got != -1) {
            due(run, "thread", got, twin.thread());
        }
    }

    private static void due(int run, String call, int got, int want) {
        if (got != want) {
            wrong++;
            System.out.println("run " + run + ": " + call + " answered " + got + ", due is " + want);
        }
    }
}
