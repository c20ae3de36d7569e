import java.lang.management.ManagementFactory;
import java.util.Random;

/**
 * All calls of one run live in one room of some 7.3 million fields and elements: what 512 calls make, asked for full
 * programs again and again, stays far below that many bytes, and so below that many elements.
 */
public final class Room extends Checks {
    private static final long MOST_BYTES = 3_500_000;
    private static final int CALLS = 512;

    public static void main(String[] args) {
        com.sun.management.ThreadMXBean bean =
                (com.sun.management.ThreadMXBean) ManagementFactory.getThreadMXBean();
        long id = Thread.currentThread().getId();
        long most = 0;
        for (int run = 0; run < 60; run++) {
            int[][] calls = someActions(new Random(run), run % 4);
            long before = bean.getThreadAllocatedBytes(id);
            use(calls);
            most = Math.max(most, bean.getThreadAllocatedBytes(id) - before);
        }
        System.out.println("at most " + most + " bytes in a run");
        due(5, "few enough bytes", most <= MOST_BYTES ? 1 : 0, 1);
        end();
    }

    /** Full programs one behind the other: those of one variable and many writers are the dearest. */
    private static int[][] someActions(Random random, int mix) {
        int[][] actions = new int[CALLS][];
        for (int n = 0; n < CALLS; n++) {
            int t = n % 7 % 4;
            int v = n % 7 + 1;
            int r = n % 7 / 4;
            switch (anyKind(random, mix)) {
                case READ:
                    actions[n] = read(t, 0, r);
                    break;
                case WRITE:
                    actions[n] = write(t, 0, v);
                    break;
                case SEND:
                    actions[n] = send(t, 0, r, v);
                    break;
                default:
                    actions[n] = add(t, 0, r, v);
                    break;
            }
        }
        return actions;
    }

    private static int anyKind(Random random, int mix) {
        switch (mix) {
            case 0:
                return ADD;
            case 1:
                return random.nextInt(2) == 0 ? READ : ADD;
            case 2:
                return random.nextInt(2) == 0 ? WRITE : ADD;
            default:
                return random.nextInt(4);
        }
    }

    private static void use(int[][] actions) {
        OrderModels m = new OrderModels();
        int calls = 0;
        int n = 0;
        while (calls + 24 <= CALLS) {
            m.clear();
            for (int t = 0; t < 4; t++) {
                m.thread();
            }
            for (int k = 0; k < 7; k++) {
                int[] a = actions[n % CALLS];
                m.action(a[0], a[1], a[2], a[3], a[4]);
                n++;
            }
            for (int model = 0; model < 4; model++) {
                m.runs(model);
                m.graphs(model);
                m.beyond(model, 0);
            }
            calls += 24;
        }
    }
}
