import java.util.ArrayDeque;
import java.util.ArrayList;
import java.util.Deque;
import java.util.List;
import java.util.Random;

/** Runs of calls by chance on towns by chance: every answer is the oracle's. */
public final class OracleTest {
    private static final Checks CHECKS = new Checks();
    // Mostly told anew, so that nothing of an earlier town may shine through.
    private static RiverDrains object = new RiverDrains();
    private static int lawful = 0;
    private static int lifted = 0;
    private static int large = 0;

    private final Random random;
    private final String text;
    private final Oracle due;
    private final RiverDrains x;
    private Oracle.Laid[] net;
    private Oracle.Laid[] image = null;
    private final Deque<Oracle.Laid[]> past = new ArrayDeque<>();

    private OracleTest(Random random, String text) throws Oracle.Fault {
        this.random = random;
        this.text = text;
        if (random.nextInt(5) == 0) {
            object = new RiverDrains();
        }
        x = object;
        due = new Oracle(text);
        CHECKS.due("text of [" + text + "]", Checks.tell(x, text), due.lines);
        net = new Oracle.Laid[due.corners.size()];
        compareTold();
    }

    private void compareTold() {
        for (int i = -1; i < 8; i++) {
            boolean isCorner = i >= 0 && i < due.corners.size();
            due("named corner " + i, x.named(0, Checks.letters("" + (char) ('a' + i))), isCorner ? i : -1);
            if (isCorner) {
                Oracle.Corner c = due.corners.get(i);
                due("look " + i, x.look(i, 0) * 10000L + x.look(i, 1) * 100L + x.look(i, 2), c.height() * 10000L + c.area() * 100L + c.rock());
            }
        }
        for (int i = -1; i < 11; i++) {
            Oracle.Street s = i >= 0 && i < due.streets.size() ? due.streets.get(i) : new Oracle.Street(-1, -1, -1, -1, -1);
            int[] want = {s.from(), s.to(), s.length(), s.hours(), s.risk()};
            for (int what = 0; what < 5; what++) {
                due("street " + i + " " + what, x.street(i, what), want[what]);
            }
        }
        for (int i = -1; i < 5; i++) {
            Oracle.Width w = i >= 0 && i < due.widths.size() ? due.widths.get(i) : new Oracle.Width(-1, -1);
            due("pipe " + i, x.pipe(i, 0), w.wide());
            due("price " + i, x.pipe(i, 1), w.cost());
        }
        for (char name = 'a'; name <= 'z'; name++) {
            int want = -1;
            for (int i = 0; i < due.rains.size(); i++) {
                want = due.rains.get(i).name().equals("" + name) ? i : want;
            }
            due("named rain " + name, x.named(1, Checks.letters("" + name)), want);
        }
        long[] counts = {due.corners.size(), due.streets.size(), due.widths.size(), due.rains.size(), due.knots, 0, due.river, due.level, 0};
        for (int what = 0; what < counts.length; what++) {
            due("count " + what, x.count(what), counts[what]);
        }
        due("no image", x.back(), -1);
    }

    public static void main(String[] args) throws Oracle.Fault {
        Random random = new Random(args.length > 0 ? Long.parseLong(args[0]) : 11);
        for (int i = 0; i < 1500 && CHECKS.isClean(); i++) {
            OracleTest test = new OracleTest(random, RandomTown.text(random, 1 + random.nextInt(7), random.nextInt(4) * 4));
            for (int step = 0; step < 25; step++) {
                test.change();
                test.compareNet();
            }
        }
        for (int i = 0; i < 4000 && CHECKS.isClean(); i++) {
            int corners = i % 3 == 0 ? 5 + random.nextInt(2) : 1 + random.nextInt(4);
            OracleTest test = new OracleTest(random, i % 2 == 0
                ? RandomTown.level(random, corners) : RandomTown.text(random, corners, random.nextInt(5) * 3));
            if (test.combinations() < (corners > 4 ? 300 : 3000)) {
                test.compareTrees();
            }
        }
        System.out.println(lawful + " lawful trees, " + lifted + " with pumps, " + large + " large");
        CHECKS.due("enough lawful trees", lawful > 3000, true);
        CHECKS.due("enough pumps", lifted > 500, true);
        CHECKS.due("enough large ones", large > 1000, true);
        CHECKS.end();
    }

    private void due(String call, long got, long want) {
        CHECKS.due(call + " of [" + text + "] with " + java.util.Arrays.toString(net), got, want);
    }

    private double combinations() {
        int depths = due.coverMost - due.coverLeast + 1;
        return Math.pow((double) due.widths.size() * depths * depths, due.corners.size() - 1);
    }

    private void remember() {
        past.push(net.clone());
        if (past.size() > 20) {
            past.removeLast();
        }
    }

    private void change() {
        int corners = due.corners.size();
        switch (random.nextInt(12)) {
            case 0: {
                int corner = random.nextInt(corners + 1) - (random.nextInt(9) == 0 ? 1 : 0);
                boolean can = corner >= 0 && corner < corners && net[corner] != null;
                if (can) {
                    remember();
                    net[corner] = null;
                }
                due("take " + corner, x.take(corner) ? 1 : 0, can ? 1 : 0);
                break;
            }
            case 1: {
                int want = past.isEmpty() ? -1 : past.size() - 1;
                if (want >= 0) {
                    net = past.pop();
                }
                due("undo", x.undo(), want);
                break;
            }
            case 2: {
                if (random.nextInt(3) == 0) {
                    image = net.clone();
                    due("keep", x.keep(), laid());
                }
                break;
            }
            case 3: {
                if (random.nextInt(3) == 0 && image != null) {
                    net = image.clone();
                    past.clear();
                    due("back", x.back(), laid());
                } else if (image == null) {
                    due("back", x.back(), -1);
                }
                break;
            }
            default: layOne(corners); break;
        }
    }

    private long laid() {
        long count = 0;
        for (Oracle.Laid pipe : net) {
            count += pipe == null ? 0 : 1;
        }
        return count;
    }

    private void layOne(int corners) {
        int corner = random.nextInt(corners + 1) - (random.nextInt(20) == 0 ? 1 : 0);
        List<Integer> ways = new ArrayList<>();
        for (int s = 0; s < due.streets.size(); s++) {
            if (due.streets.get(s).touches(corner)) {
                ways.add(s);
            }
        }
        int street = ways.isEmpty() || random.nextInt(20) == 0 ? random.nextInt(12) - 1 : ways.get(random.nextInt(ways.size()));
        int width = random.nextInt(20) == 0 ? random.nextInt(6) - 1 : random.nextInt(2);
        int span = due.coverMost - due.coverLeast + 1;
        int a = random.nextInt(9) == 0 ? random.nextInt(16) - 1 : due.coverLeast + random.nextInt(span);
        int b = random.nextInt(9) == 0 ? random.nextInt(16) - 1 : due.coverLeast + random.nextInt(span);
        boolean can = corner >= 0 && corner < corners && corner != due.river && street >= 0 && street < due.streets.size()
            && due.streets.get(street).touches(corner) && width >= 0 && width < due.widths.size()
            && a >= 0 && a <= 12 && b >= 0 && b <= 12;
        if (can) {
            remember();
            net[corner] = new Oracle.Laid(street, width, a, b);
        }
        due("lay " + corner + " " + street + " " + width + " " + a + " " + b, x.lay(corner, street, width, a, b) ? 1 : 0, can ? 1 : 0);
    }

    private void compareNet() {
        due("count 5", x.count(5), laid());
        due("count 8", x.count(8), past.size());
        for (int c = 0; c < net.length; c++) {
            if (net[c] == null) {
                compareEmpty(c);
            } else {
                comparePipe(c);
            }
        }
        due("all", x.all(), due.all(net));
        int[] judged = due.judged(net);
        due("judged 0", x.judged(0), judged[0]);
        due("judged 1", x.judged(1), judged[1]);
        due("bursts", x.bursts(), due.bursts(net));
        compareFloods();
        compareFirst();
        compareStages();
    }

    private void compareEmpty(int c) {
        due("net 0", x.net(c, 0), -2);
        due("net 5", x.net(c, 5), Integer.MIN_VALUE);
        due("carries", x.carries(c), -1);
        due("broken", x.broken(c), -2);
        due("flow", x.flow(c, 0, 0), -1);
        due("flooded", x.flooded(c, 0, 0), -1);
        due("worst", x.worst(c, 0), -1);
        due("burst", x.burst(c), -1);
    }

    private void comparePipe(int c) {
        due("net 0", x.net(c, 0), net[c].street());
        due("net 1", x.net(c, 1), net[c].width());
        due("net 2", x.net(c, 2), net[c].a());
        due("net 3", x.net(c, 3), net[c].b());
        due("net 4", x.net(c, 4), due.to(net, c));
        due("net 5", x.net(c, 5), due.fall(net, c));
        due("carries", x.carries(c), due.carries(net, c));
        due("cost 0", x.cost(c, 0), due.pipeCost(net, c));
        due("cost 1", x.cost(c, 1), due.pumpCost(net, c));
        due("broken", x.broken(c), due.broken(net, c));
        due("burst", x.burst(c), due.burst(net, c));
        long[] worst = due.worst(net, c);
        for (int what = 0; what < 3; what++) {
            due("worst " + what, x.worst(c, what), due.rains.isEmpty() ? -1 : worst[what]);
        }
        for (int rain = 0; rain < due.rains.size(); rain++) {
            int hour = random.nextInt(30);
            due("flow " + hour, x.flow(c, rain, hour), due.water(net, c, rain, hour, false));
            due("flooded " + hour, x.flooded(c, rain, hour), due.flooded(net, c, rain, hour));
        }
    }

    private void compareFloods() {
        for (int rain = 0; rain < due.rains.size(); rain++) {
            long sum = 0;
            for (int c = 0; c < net.length; c++) {
                for (int hour = 0; net[c] != null && hour < 30; hour++) {
                    sum += due.flooded(net, c, rain, hour);
                }
            }
            due("floods", x.floods(rain), sum);
        }
    }

    private void compareFirst() {
        int best = -1;
        for (int c = 0; c < net.length; c++) {
            if (net[c] != null && (best < 0 || due.danger(net, c) > due.danger(net, best))) {
                best = c;
            }
        }
        due("first 0", x.first(0), best);
        due("first 1", x.first(1), best < 0 ? -1 : due.danger(net, best));
    }

    private void compareStages() {
        if (!due.seven(net)) {
            due("stages 0", x.stages(0), -1);
            due("stage", x.stage(random.nextInt(9) - 1, 0), -1);
            return;
        }
        List<Long> best = due.stages(net);
        for (int what = -1; what <= net.length; what++) {
            due("stages " + what, x.stages(what), what >= 0 && what < net.length ? best.get(what) : -1);
        }
        int packed = 0;
        List<Integer> order = new ArrayList<>();
        int n = random.nextInt(4) == 0 ? random.nextInt(7) : net.length - 1;
        for (int i = 0; i < n; i++) {
            int corner = random.nextInt(3) == 0 || i + 1 >= best.size() ? random.nextInt(16) : (int) (long) best.get(i + 1);
            order.add(corner);
            packed |= corner << 4 * i;
        }
        due("stage " + order, x.stage(n, packed), due.stage(net, order));
    }

    private void compareTrees() {
        int all = 1 << due.streets.size();
        long[] cost = new long[all];
        int best = -1;
        int sets = 0;
        for (int bits = 0; bits < all; bits++) {
            cost[bits] = due.cheapest(bits);
            due("cheapest " + bits, x.cheapest(bits), cost[bits]);
            sets += due.isTree(bits) ? 1 : 0;
            best = cost[bits] >= 0 && (best < 0 || cost[bits] < cost[best]) ? bits : best;
            boolean can = cost[bits] >= 0;
            due("laid " + bits, x.laid(bits) ? 1 : 0, can ? 1 : 0);
            if (can) {
                remember();
                net = due.cheapestNet();
                countNet();
                due("judged", x.judged(0), 0);
                compareNet();
            }
        }
        due("tree 0", x.tree(0), best < 0 ? -2 : cost[best]);
        due("tree 1", x.tree(1), best < 0 ? -2 : best);
        due("tree 2", x.tree(2), sets);
        for (int one = -1; one <= due.streets.size(); one++) {
            for (int other = -1; other <= due.streets.size(); other++) {
                due("without " + one + " " + other, x.without(one, other), without(cost, best, one, other));
            }
        }
    }

    private void countNet() {
        boolean pumped = false;
        for (int c = 0; c < net.length; c++) {
            pumped |= net[c] != null && due.lift(net, c) > 0;
        }
        lawful++;
        lifted += pumped ? 1 : 0;
        large += net.length > 4 ? 1 : 0;
    }

    private long without(long[] cost, int best, int one, int other) {
        int streets = due.streets.size();
        if (best < 0 || one < 0 || other < 0 || one >= streets || other >= streets) {
            return -1;
        }
        long least = -2;
        for (int bits = 0; bits < cost.length; bits++) {
            boolean bare = (bits >> one & 1) == 0 && (bits >> other & 1) == 0;
            if (bare && cost[bits] >= 0 && (least < 0 || cost[bits] < least)) {
                least = cost[bits];
            }
        }
        return least < 0 ? -2 : least - cost[best];
    }
}
