import java.util.NoSuchElementException;
import java.util.Random;

/** Wild arguments in all states: nothing but look() ever throws, and that only what it names. */
public final class WildCallsTest {
    private static final int[] EDGES = {Integer.MIN_VALUE, Integer.MIN_VALUE + 1, -1000, -3, -2, -1, 0, 1, 2, 3, 4, 5, 6, 7, 8,
        9, 10, 11, 12, 13, 29, 30, 31, 32, 33, 63, 64, 255, 1023, 1024, 65535, Integer.MAX_VALUE - 1, Integer.MAX_VALUE};

    private WildCallsTest() { }

    public static void main(String[] args) {
        Checks checks = new Checks();
        Random random = new Random(args.length > 0 ? Long.parseLong(args[0]) : 3);
        for (int i = 0; i < 2500 && checks.isClean(); i++) {
            RiverDrains x = new RiverDrains();
            if (i % 10 != 0) {
                Checks.tell(x, RandomTown.text(random, 1 + random.nextInt(7), random.nextInt(40)));
            }
            for (int call = 0; call < 400; call++) {
                int which = random.nextInt(40);
                int corners = x.count(0);
                try {
                    call(x, which, random);
                } catch (RuntimeException e) {
                    boolean named = which == 4 && (e instanceof IndexOutOfBoundsException || e instanceof NoSuchElementException);
                    checks.due("call " + which + " throws " + e + " with " + corners + " corners", named, true);
                }
                checks.due("laid and undoable stay in bounds", x.count(5) <= Math.max(0, x.count(0) - 1) + 1 && x.count(8) <= 20, true);
            }
        }
        checks.end();
    }

    private static int any(Random random) {
        int kind = random.nextInt(10);
        if (kind < 7) {
            return random.nextInt(8);
        }
        return kind < 9 ? EDGES[random.nextInt(EDGES.length)] : random.nextInt();
    }

    private static void call(RiverDrains x, int which, Random random) {
        int a = any(random);
        int b = any(random);
        int c = any(random);
        switch (which) {
            case 0: x.feed(a, b, c, any(random), any(random)); break;
            case 1: x.text(random.nextInt(9) == 0 ? a : -1); break;
            case 2: x.fault(a); break;
            case 3: x.named(a, b); break;
            case 4: x.look(a, b); break;
            case 5: x.street(a, b); break;
            case 6: x.pipe(a, b); break;
            case 7: x.take(a); break;
            case 8: x.net(a, b); break;
            case 9: x.carries(a); break;
            case 10: x.cost(a, b); break;
            case 11: x.all(); break;
            case 12: x.broken(a); break;
            case 13: x.judged(a); break;
            case 14: x.flow(a, b, c); break;
            case 15: x.flooded(a, b, c); break;
            case 16: x.floods(a); break;
            case 17: x.worst(a, b); break;
            case 18: x.burst(a); break;
            case 19: x.bursts(); break;
            case 20: x.cheapest(a); break;
            case 21: x.laid(random.nextInt(3) == 0 ? (int) x.tree(1) : a); break;
            case 22: x.tree(a); break;
            case 23: x.without(a, b); break;
            case 24: x.stages(a); break;
            case 25: x.stage(a, random.nextInt()); break;
            case 26: x.first(a); break;
            case 27: x.undo(); break;
            case 28: x.keep(); break;
            case 29: x.back(); break;
            case 30: x.count(a); break;
            default: x.lay(a, b, random.nextInt(3) == 0 ? c : 0, any(random), any(random)); break;
        }
    }
}
