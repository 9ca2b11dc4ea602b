import java.util.ArrayList;
import java.util.List;
import java.util.Map;
import java.util.HashMap;
import java.util.Set;

/**
 * The document once more, written to be plain and slow: every definition is followed word by word,
 * and the cheapest nets are found by trying them all.
 */
final class Oracle {
    static final Set<String> LANGUAGE = Set.of("corner", "river", "street", "pipe", "falls", "cover", "rain", "law",
        "cart", "rock", "hours", "risk", "carry", "dig", "pump", "wide", "fall", "deep", "rocky", "lift", "flow",
        "or", "and", "not");
    static final Set<String> NAMES = Set.of("wide", "fall", "deep", "rocky", "lift", "flow");

    static final class Fault extends Exception {
        final int number;
        final int place;

        Fault(int number, int place) {
            super("fault " + number + " at " + place, null, false, false);
            this.number = number;
            this.place = place;
        }
    }

    static final class CalculationError extends Exception {
        CalculationError() {
            super(null, null, false, false);
        }
    }

    interface E {
        long value(Map<String, Long> names) throws CalculationError;
    }

    record Corner(String name, int height, int area, int rock) { }

    record Street(int from, int to, int length, int hours, int risk) {
        boolean touches(int corner) {
            return from == corner || to == corner;
        }

        int other(int corner) {
            return from == corner ? to : from;
        }
    }

    record Width(int wide, int cost) { }

    record Rain(String name, List<Integer> hours) { }

    record Token(String text, int place) { }

    record Laid(int street, int width, int a, int b) { }

    final List<Corner> corners = new ArrayList<>();
    final List<Street> streets = new ArrayList<>();
    final List<Width> widths = new ArrayList<>();
    final List<Rain> rains = new ArrayList<>();
    final Map<String, E> laws = new HashMap<>();
    int river = -1;
    int level = -1;
    int fallLeast = 1;
    int fallMost = 9;
    int coverLeast = 2;
    int coverMost = 8;
    int cart = 1;
    int knots = 0;
    int lines = 0;
    private final Set<String> once = new java.util.HashSet<>();
    private final String text;
    private final List<Token> tokens = new ArrayList<>();
    private int at = 0;
    private int open = 0;

    Oracle(String text) throws Fault {
        this.text = text;
        cut();
        while (!peek().isEmpty()) {
            line();
            want(";");
            lines++;
        }
    }

    // Tokens

    private void cut() {
        java.util.regex.Matcher m = java.util.regex.Pattern.compile("[a-z]+|[0-9]+|<=|<>|>=|[^ \n]", java.util.regex.Pattern.DOTALL)
            .matcher(text);
        while (m.find()) {
            tokens.add(new Token(m.group(), m.start()));
        }
        tokens.add(new Token("", text.length()));
    }

    private String peek() {
        return tokens.get(at).text;
    }

    private Fault bad(int number) {
        return new Fault(number, tokens.get(at).place);
    }

    private void want(String token) throws Fault {
        if (!peek().equals(token)) {
            throw bad(1);
        }
        at++;
    }

    private boolean isNumber() {
        return peek().matches("[0-9]+");
    }

    private int number(int least, int most) throws Fault {
        if (!isNumber()) {
            throw bad(1);
        }
        java.math.BigInteger n = new java.math.BigInteger(peek());
        if (n.compareTo(java.math.BigInteger.valueOf(least)) < 0 || n.compareTo(java.math.BigInteger.valueOf(most)) > 0) {
            throw bad(2);
        }
        at++;
        return n.intValue();
    }

    private String word() throws Fault {
        if (!peek().matches("[a-z]{1,6}") || LANGUAGE.contains(peek())) {
            throw bad(1);
        }
        return peek();
    }

    private int corner() throws Fault {
        String name = word();
        for (int i = 0; i < corners.size(); i++) {
            if (corners.get(i).name.equals(name)) {
                return i;
            }
        }
        throw bad(4);
    }

    private void once() throws Fault {
        if (!once.add(peek())) {
            throw bad(3);
        }
        at++;
    }

    private void room(List<?> list, int most) throws Fault {
        if (list.size() >= most) {
            throw bad(2);
        }
        at++;
    }

    private int option(String word, int most, int otherwise) throws Fault {
        if (!peek().equals(word)) {
            return otherwise;
        }
        at++;
        return number(0, most);
    }

    private void line() throws Fault {
        switch (peek()) {
            case "corner" -> {
                room(corners, 7);
                String name = word();
                if (corners.stream().anyMatch(c -> c.name.equals(name))) {
                    throw bad(3);
                }
                at++;
                int height = number(0, 999);
                int area = number(0, 99);
                corners.add(new Corner(name, height, area, option("rock", 20, 20)));
            }
            case "river" -> {
                once();
                river = corner();
                at++;
                level = number(0, 999);
            }
            case "street" -> {
                room(streets, 10);
                int from = corner();
                at++;
                int to = corner();
                if (from == to) {
                    throw bad(5);
                }
                if (streets.stream().anyMatch(s -> s.touches(from) && s.touches(to))) {
                    throw bad(3);
                }
                at++;
                int length = number(1, 99);
                int hours = option("hours", 3, 0);
                int risk = option("risk", 99, 1);
                streets.add(new Street(from, to, length, hours, risk));
            }
            case "pipe" -> {
                room(widths, 4);
                int wide = number(widths.isEmpty() ? 1 : widths.get(widths.size() - 1).wide + 1, 99);
                widths.add(new Width(wide, number(0, 99)));
            }
            case "falls" -> {
                once();
                fallLeast = number(0, 99);
                fallMost = number(fallLeast, 99);
            }
            case "cover" -> {
                once();
                coverLeast = number(0, 12);
                coverMost = number(coverLeast, 12);
            }
            case "rain" -> {
                room(rains, 4);
                String name = word();
                if (rains.stream().anyMatch(r -> r.name.equals(name))) {
                    throw bad(3);
                }
                at++;
                List<Integer> hours = new ArrayList<>();
                do {
                    if (hours.size() == 6) {
                        throw bad(2);
                    }
                    hours.add(number(0, 99));
                } while (isNumber());
                rains.add(new Rain(name, hours));
            }
            case "law" -> {
                at++;
                String kind = peek();
                if (!Set.of("carry", "dig", "pump").contains(kind)) {
                    throw bad(1);
                }
                if (laws.containsKey(kind)) {
                    throw bad(3);
                }
                at++;
                open = 0;
                laws.put(kind, parseOr());
            }
            case "cart" -> {
                once();
                cart = number(0, 99);
            }
            default -> throw bad(1);
        }
    }

    // Laws

    private void knot() throws Fault {
        if (knots == 64) {
            throw bad(2);
        }
        knots++;
        at++;
    }

    private static long checked(java.math.BigInteger value) throws CalculationError {
        if (value.abs().compareTo(java.math.BigInteger.TEN.pow(12)) > 0) {
            throw new CalculationError();
        }
        return value.longValue();
    }

    private static long join(String sign, long x, long y) throws CalculationError {
        java.math.BigInteger a = java.math.BigInteger.valueOf(x);
        java.math.BigInteger b = java.math.BigInteger.valueOf(y);
        return switch (sign) {
            case "+" -> checked(a.add(b));
            case "-" -> checked(a.subtract(b));
            case "*" -> checked(a.multiply(b));
            case "/" -> {
                if (y == 0) {
                    throw new CalculationError();
                }
                yield checked(a.divide(b));
            }
            case "<" -> x < y ? 1 : 0;
            case "<=" -> x <= y ? 1 : 0;
            case "=" -> x == y ? 1 : 0;
            case "<>" -> x != y ? 1 : 0;
            case ">=" -> x >= y ? 1 : 0;
            case ">" -> x > y ? 1 : 0;
            case "and" -> x != 0 & y != 0 ? 1 : 0;
            case "or" -> x != 0 | y != 0 ? 1 : 0;
            default -> throw new IllegalStateException(sign);
        };
    }

    private static E both(String sign, E left, E right) {
        return names -> {
            long x = left.value(names);
            long y = right.value(names);
            return join(sign, x, y);
        };
    }

    private E parseOr() throws Fault {
        E left = parseAnd();
        while (peek().equals("or")) {
            knot();
            left = both("or", left, parseAnd());
        }
        return left;
    }

    private E parseAnd() throws Fault {
        E left = parseNot();
        while (peek().equals("and")) {
            knot();
            left = both("and", left, parseNot());
        }
        return left;
    }

    private E parseNot() throws Fault {
        if (peek().equals("not")) {
            knot();
            E inner = parseNot();
            return names -> inner.value(names) == 0 ? 1 : 0;
        }
        E left = parseSum();
        if (Set.of("<", "<=", "=", "<>", ">=", ">").contains(peek())) {
            String sign = peek();
            knot();
            left = both(sign, left, parseSum());
        }
        return left;
    }

    private E parseSum() throws Fault {
        E left = parseProduct();
        while (Set.of("+", "-").contains(peek())) {
            String sign = peek();
            knot();
            left = both(sign, left, parseProduct());
        }
        return left;
    }

    private E parseProduct() throws Fault {
        E left = parseLeaf();
        while (Set.of("*", "/").contains(peek())) {
            String sign = peek();
            knot();
            left = both(sign, left, parseLeaf());
        }
        return left;
    }

    private E parseLeaf() throws Fault {
        if (peek().equals("(")) {
            if (open == 8) {
                throw bad(2);
            }
            open++;
            at++;
            E inner = parseOr();
            want(")");
            open--;
            return inner;
        }
        if (NAMES.contains(peek())) {
            String name = peek();
            knot();
            return names -> names.getOrDefault(name, 0L);
        }
        int value = number(0, 9999);
        at--;
        knot();
        return names -> value;
    }

    private long work(String law, long otherwise, long onError, Map<String, Long> names) {
        if (!laws.containsKey(law)) {
            return Math.max(0, otherwise);
        }
        try {
            return Math.max(0, laws.get(law).value(names));
        } catch (CalculationError e) {
            return onError;
        }
    }

    // A net: one entry for each corner, null where none is laid.

    int to(Laid[] net, int corner) {
        return streets.get(net[corner].street).other(corner);
    }

    List<Integer> laidTo(Laid[] net, int corner) {
        List<Integer> from = new ArrayList<>();
        for (int c = 0; c < net.length; c++) {
            if (net[c] != null && to(net, c) == corner) {
                from.add(c);
            }
        }
        return from;
    }

    int fall(Laid[] net, int corner) {
        return corners.get(corner).height - net[corner].a - (corners.get(to(net, corner)).height - net[corner].b);
    }

    long carries(Laid[] net, int corner) {
        long wide = widths.get(net[corner].width).wide;
        long fall = fall(net, corner) / streets.get(net[corner].street).length;
        return work("carry", wide * fall, 0, Map.of("wide", wide, "fall", fall));
    }

    long pipeCost(Laid[] net, int corner) {
        Width width = widths.get(net[corner].width);
        long deep = (net[corner].a + net[corner].b) / 2;
        long rocky = Math.max(0, deep - corners.get(corner).rock);
        long dig = work("dig", deep, 9999, Map.of("wide", (long) width.wide, "deep", deep, "rocky", rocky));
        return streets.get(net[corner].street).length * (width.cost + dig);
    }

    int lift(Laid[] net, int corner) {
        return Math.max(0, laidTo(net, corner).stream().mapToInt(c -> net[c].b).max().orElse(0) - net[corner].a);
    }

    long pumpCost(Laid[] net, int corner) {
        long lift = lift(net, corner);
        return lift == 0 ? 0 : work("pump", 0, 9999, Map.of("lift", lift, "flow", worst(net, corner)[0]));
    }

    long all(Laid[] net) {
        long sum = 0;
        for (int c = 0; c < net.length; c++) {
            sum += net[c] == null ? 0 : pipeCost(net, c) + pumpCost(net, c);
        }
        return sum;
    }

    boolean inRing(Laid[] net, int corner) {
        int c = corner;
        for (int i = 0; i < net.length && net[c] != null; i++) {
            c = to(net, c);
            if (c == corner) {
                return true;
            }
        }
        return false;
    }

    long water(Laid[] net, int corner, int rain, int hour, boolean capped) {
        if (hour < 0 || inRing(net, corner)) {
            return 0;
        }
        List<Integer> drops = rains.get(rain).hours;
        long sum = hour < drops.size() ? (long) corners.get(corner).area * drops.get(hour) : 0;
        for (int c : laidTo(net, corner)) {
            long comes = water(net, c, rain, hour - streets.get(net[c].street).hours, capped);
            sum += capped ? Math.min(comes, carries(net, c)) : comes;
        }
        return sum;
    }

    long flooded(Laid[] net, int corner, int rain, int hour) {
        return Math.max(0, water(net, corner, rain, hour, true) - carries(net, corner));
    }

    long[] worst(Laid[] net, int corner) {
        long[] best = {rains.isEmpty() ? 0 : -1, -1, -1};
        for (int rain = 0; rain < rains.size(); rain++) {
            for (int hour = 0; hour < 30; hour++) {
                long flow = water(net, corner, rain, hour, false);
                if (flow > best[0]) {
                    best = new long[] {flow, rain, hour};
                }
            }
        }
        return best;
    }

    int burst(Laid[] net, int corner) {
        long flow = worst(net, corner)[0];
        long carries = carries(net, corner);
        for (int k = 1; k < 9999; k++) {
            if (flow * k > carries * 100) {
                return k;
            }
        }
        return 9999;
    }

    int bursts(Laid[] net) {
        int best = -1;
        for (int c = 0; c < net.length; c++) {
            if (net[c] != null && (best < 0 || burst(net, c) < burst(net, best))) {
                best = c;
            }
        }
        return best;
    }

    private boolean covered(int deep) {
        return deep >= coverLeast && deep <= coverMost;
    }

    int broken(Laid[] net, int corner) {
        Laid pipe = net[corner];
        int length = streets.get(pipe.street).length;
        if (!covered(pipe.a) || !covered(pipe.b)) {
            return 1;
        }
        if (fall(net, corner) < length * fallLeast) {
            return 2;
        }
        if (fall(net, corner) > length * fallMost) {
            return 3;
        }
        if (laidTo(net, corner).stream().anyMatch(c -> net[c].width > pipe.width)) {
            return 4;
        }
        if (!laws.containsKey("pump") && laidTo(net, corner).stream().anyMatch(c -> net[c].b > pipe.a)) {
            return 5;
        }
        return worst(net, corner)[0] > carries(net, corner) ? 6 : 0;
    }

    boolean comes(Laid[] net, int corner) {
        int c = corner;
        for (int i = 0; i < net.length && c != river; i++) {
            if (net[c] == null) {
                return false;
            }
            c = to(net, c);
        }
        return c == river;
    }

    boolean seven(Laid[] net) {
        for (int c = 0; c < net.length; c++) {
            if (river < 0 || !comes(net, c)) {
                return false;
            }
        }
        return river >= 0;
    }

    int[] judged(Laid[] net) {
        if (!seven(net)) {
            return new int[] {7, -1};
        }
        for (int c = 0; c < net.length; c++) {
            if (c != river && broken(net, c) != 0) {
                return new int[] {broken(net, c), c};
            }
        }
        for (int c = 0; c < net.length; c++) {
            if (c != river && to(net, c) == river && corners.get(river).height - net[c].b < level) {
                return new int[] {8, c};
            }
        }
        return new int[] {0, -1};
    }

    // Trees

    boolean isTree(int bits) {
        if (bits < 0 || bits >= 1 << streets.size() || corners.isEmpty()) {
            return false;
        }
        int[] group = new int[corners.size()];
        for (int c = 0; c < group.length; c++) {
            group[c] = c;
        }
        int groups = group.length;
        for (int s = 0; s < streets.size(); s++) {
            if ((bits >> s & 1) == 0) {
                continue;
            }
            int one = group[streets.get(s).from];
            int other = group[streets.get(s).to];
            if (one == other) {
                return false;
            }
            groups--;
            for (int c = 0; c < group.length; c++) {
                group[c] = group[c] == other ? one : group[c];
            }
        }
        return groups == 1;
    }

    private long leastCost;
    private Laid[] leastNet;

    /** All nets in the order of the ties are tried; the first of the least cost stays. */
    long cheapest(int bits) {
        if (!isTree(bits)) {
            return -1;
        }
        leastCost = -2;
        leastNet = null;
        if (river >= 0) {
            int[] way = new int[corners.size()];
            java.util.Arrays.fill(way, -1);
            orient(bits, river, -1, way);
            tryAll(way, new Laid[corners.size()], 0);
        }
        return leastCost;
    }

    Laid[] cheapestNet() {
        return leastNet;
    }

    private void orient(int bits, int corner, int by, int[] way) {
        way[corner] = by;
        for (int s = 0; s < streets.size(); s++) {
            if (s != by && (bits >> s & 1) != 0 && streets.get(s).touches(corner)) {
                orient(bits, streets.get(s).other(corner), s, way);
            }
        }
    }

    private void tryAll(int[] way, Laid[] net, int corner) {
        if (corner == net.length) {
            if (judged(net)[0] == 0 && (leastNet == null || all(net) < leastCost)) {
                leastCost = all(net);
                leastNet = net.clone();
            }
            return;
        }
        if (corner == river) {
            tryAll(way, net, corner + 1);
            return;
        }
        for (int w = 0; w < widths.size(); w++) {
            for (int a = coverLeast; a <= coverMost; a++) {
                for (int b = coverLeast; b <= coverMost; b++) {
                    net[corner] = new Laid(way[corner], w, a, b);
                    int fall = fall(net, corner);
                    int length = streets.get(way[corner]).length;
                    if (fall >= length * fallLeast && fall <= length * fallMost) {
                        tryAll(way, net, corner + 1);
                    }
                    net[corner] = null;
                }
            }
        }
    }

    // Stages

    long stage(Laid[] net, List<Integer> order) {
        Set<Integer> built = new java.util.HashSet<>();
        long sum = 0;
        for (int c : order) {
            if (c >= net.length || net[c] == null || built.contains(c) || to(net, c) != river && !built.contains(to(net, c))) {
                return -2;
            }
            for (int other = 0; other < net.length; other++) {
                sum += other == river || built.contains(other) ? 0 : (long) cart * corners.get(other).area;
            }
            built.add(c);
        }
        return built.size() == net.length - 1 ? sum : -2;
    }

    private List<Integer> bestOrder;
    private long bestSum;

    /** The least sum, then the order. */
    List<Long> stages(Laid[] net) {
        bestOrder = null;
        order(net, new ArrayList<>());
        List<Long> answer = new ArrayList<>();
        answer.add(bestSum);
        bestOrder.forEach(c -> answer.add((long) c));
        return answer;
    }

    private void order(Laid[] net, List<Integer> begun) {
        if (begun.size() == net.length - 1) {
            long sum = stage(net, begun);
            if (sum >= 0 && (bestOrder == null || sum < bestSum)) {
                bestSum = sum;
                bestOrder = new ArrayList<>(begun);
            }
            return;
        }
        for (int c = 0; c < net.length; c++) {
            if (c != river && !begun.contains(c)) {
                begun.add(c);
                order(net, begun);
                begun.remove(begun.size() - 1);
            }
        }
    }

    int danger(Laid[] net, int corner) {
        int area = 0;
        for (int from = 0; from < net.length; from++) {
            int c = from;
            boolean through = net[from] != null && from == corner;
            for (int i = 0; i < net.length && net[c] != null; i++) {
                c = to(net, c);
                through |= c == corner && net[c] != null;
            }
            area += through ? corners.get(from).area : 0;
        }
        return area * streets.get(net[corner].street).risk;
    }
}
