import java.util.Arrays;
import java.util.NoSuchElementException;

/**
 * Drains of a small town that all run down to its river: a told TEXT, a NET laid in its STREETS,
 * and what both answer. All rows are made once and used again, as a run of calls has one small room.
 */
public final class RiverDrains {
    public static final int NONE = -1;

    private static final int MISSING = -2;
    private static final int TAPE_MOST = 700;
    private static final int FED = 20;
    private static final int CORNERS_MOST = 7;
    private static final int STREETS_MOST = 10;
    private static final int PIPES_MOST = 4;
    private static final int RAINS_MOST = 4;
    private static final int RAIN_HOURS_MOST = 6;
    private static final int HOURS = 30;
    private static final int DEEPEST = 12;
    private static final int DEPTHS = DEEPEST + 1;
    private static final int UNDOS_MOST = 20;
    private static final int BURST_MOST = 9999;

    private final byte[] tape = new byte[TAPE_MOST];
    private int tapeLength = 0;
    private Town town = new Town();
    // A TEXT with a FAULT leaves all as it is, so the next one is read into this town first.
    private Town spare = new Town();
    private final TextReader reader = new TextReader(tape, spare);
    private final Net net = new Net();
    private final Judge judge = new Judge(net, town);
    private final Trees trees = new Trees(town);
    private final Stages plan = new Stages(net, town);

    public RiverDrains() {
    }

    public int feed(int a, int b, int c, int d, int e) {
        if (tapeLength + FED > TAPE_MOST) {
            return NONE;
        }
        appendBytes(a);
        appendBytes(b);
        appendBytes(c);
        appendBytes(d);
        appendBytes(e);
        return tapeLength;
    }

    private void appendBytes(int four) {
        for (int shift = 24; shift >= 0 && tapeLength < TAPE_MOST; shift -= 8) {
            tape[tapeLength] = (byte) (four >> shift);
            tapeLength++;
        }
    }

    public int text(int n) {
        if (n < 0 || n > tapeLength) {
            return MISSING;
        }
        tapeLength = 0;
        int lines = reader.read(spare, n);
        if (lines != NONE) {
            Town told = spare;
            spare = town;
            town = told;
            net.clear();
            judge.serve(town);
            trees.serve(town);
        }
        return lines;
    }

    public int fault(int what) {
        if (what == 0) {
            return reader.fault;
        }
        return what == 1 ? reader.place : NONE;
    }

    public int named(int what, int letters) {
        return town.find(what, letters);
    }

    public int look(int corner, int what) throws IndexOutOfBoundsException, NoSuchElementException {
        if (!town.isCorner(corner)) {
            throw new IndexOutOfBoundsException();
        }
        if (what < Town.HEIGHT || what > Town.ROCK) {
            throw new NoSuchElementException();
        }
        return town.corner[corner][what];
    }

    public int street(int street, int what) {
        if (!town.isStreet(street) || what < Town.FROM || what > Town.RISK) {
            return NONE;
        }
        return town.street[street][what];
    }

    public int pipe(int pipe, int what) {
        if (!town.isPipe(pipe) || what < Town.WIDE || what > Town.PRICE) {
            return NONE;
        }
        return town.pipe[pipe][what];
    }

    public boolean lay(int corner, int street, int pipe, int a, int b) {
        if (!town.isCorner(corner) || corner == town.river || !town.isStreet(street) || !town.isPipe(pipe)) {
            return false;
        }
        if (!town.touches(street, corner) || a < 0 || a > DEEPEST || b < 0 || b > DEEPEST) {
            return false;
        }
        net.remember();
        net.put(corner, street, pipe, a, b);
        judge.fresh = false;
        return true;
    }

    public boolean take(int corner) {
        if (!hasPipe(corner)) {
            return false;
        }
        net.remember();
        net.street[corner] = NONE;
        judge.fresh = false;
        return true;
    }

    private boolean hasPipe(int corner) {
        return town.isCorner(corner) && net.street[corner] != NONE;
    }

    public int net(int corner, int what) {
        if (!town.isCorner(corner) || what < 0 || what > 5) {
            return NONE;
        }
        if (net.street[corner] == NONE) {
            return what == 5 ? Integer.MIN_VALUE : MISSING;
        }
        switch (what) {
            case 0: return net.street[corner];
            case 1: return net.width[corner];
            case 2: return net.top[corner];
            case 3: return net.end[corner];
            case 4: return town.otherEnd(net.street[corner], corner);
            default: return judge.fallOf(corner);
        }
    }

    public long carries(int corner) {
        return hasPipe(corner) ? judge.carriedBy(corner) : NONE;
    }

    public long cost(int corner, int what) {
        if (!hasPipe(corner) || what < 0 || what > 1) {
            return NONE;
        }
        return what == 0 ? judge.pipeCost(corner) : judge.pumpCost(corner);
    }

    public long all() {
        long sum = 0;
        for (int corner = 0; corner < town.corners; corner++) {
            if (hasPipe(corner)) {
                sum += judge.pipeCost(corner) + judge.pumpCost(corner);
            }
        }
        return sum;
    }

    public int broken(int corner) {
        if (!town.isCorner(corner)) {
            return NONE;
        }
        return hasPipe(corner) ? judge.lawBrokenBy(corner) : MISSING;
    }

    public int judged(int what) {
        if (what < 0 || what > 1) {
            return NONE;
        }
        judge.judgeNet();
        return what == 0 ? judge.law : judge.culprit;
    }

    public long flow(int corner, int rain, int hour) {
        if (!hasPipe(corner) || !town.isRain(rain) || hour < 0 || hour >= HOURS) {
            return NONE;
        }
        judge.refresh();
        return judge.plain.water[corner][rain * HOURS + hour];
    }

    public long flooded(int corner, int rain, int hour) {
        if (!hasPipe(corner) || !town.isRain(rain) || hour < 0 || hour >= HOURS) {
            return NONE;
        }
        judge.refresh();
        return judge.capped.spill[corner][rain * HOURS + hour];
    }

    public long floods(int rain) {
        if (!town.isRain(rain)) {
            return NONE;
        }
        judge.refresh();
        long sum = 0;
        for (int corner = 0; corner < town.corners; corner++) {
            for (int hour = 0; hasPipe(corner) && hour < HOURS; hour++) {
                sum += judge.capped.spill[corner][rain * HOURS + hour];
            }
        }
        return sum;
    }

    public long worst(int corner, int what) {
        if (!hasPipe(corner) || town.rains == 0 || what < 0 || what > 2) {
            return NONE;
        }
        judge.refresh();
        if (what == 0) {
            return judge.plain.greatest(corner);
        }
        int peak = judge.plain.peak[corner];
        return what == 1 ? peak / HOURS : peak % HOURS;
    }

    public int burst(int corner) {
        return hasPipe(corner) ? judge.burstOf(corner) : NONE;
    }

    public int bursts() {
        int weakest = NONE;
        int least = BURST_MOST + 1;
        for (int corner = 0; corner < town.corners; corner++) {
            int k = hasPipe(corner) ? judge.burstOf(corner) : least;
            if (k < least) {
                least = k;
                weakest = corner;
            }
        }
        return weakest;
    }

    public long cheapest(int streets) {
        return trees.costOf(streets);
    }

    public boolean laid(int streets) {
        if (trees.costOf(streets) < 0) {
            return false;
        }
        net.remember();
        trees.layInto(net, streets);
        judge.fresh = false;
        return true;
    }

    public long tree(int what) {
        if (what < 0 || what > 2) {
            return NONE;
        }
        trees.settle();
        if (what == 2) {
            return trees.sets;
        }
        return what == 0 || trees.least < 0 ? trees.least : trees.leastStreets;
    }

    public long without(int one, int other) {
        if (!town.isStreet(one) || !town.isStreet(other)) {
            return NONE;
        }
        trees.settle();
        if (trees.least < 0) {
            return NONE;
        }
        long cost = trees.leastAvoiding(1 << one | 1 << other);
        return cost < 0 ? MISSING : cost - trees.least;
    }

    public long stages(int what) {
        if (!judge.allRunOut() || what < 0 || what >= town.corners) {
            return NONE;
        }
        plan.settle(town);
        return what == 0 ? plan.sum : plan.order[what - 1];
    }

    public long stage(int n, int order) {
        if (!judge.allRunOut() || n < 0 || n >= CORNERS_MOST) {
            return NONE;
        }
        return plan.sumOf(town, n, order);
    }

    public int first(int what) {
        if (what < 0 || what > 1) {
            return NONE;
        }
        int greatest = NONE;
        int riskiest = NONE;
        for (int corner = 0; corner < town.corners; corner++) {
            int danger = hasPipe(corner) ? judge.dangerOf(corner) : NONE;
            if (danger > greatest) {
                greatest = danger;
                riskiest = corner;
            }
        }
        return what == 0 ? riskiest : greatest;
    }

    public int undo() {
        if (net.undoable == 0) {
            return NONE;
        }
        net.goBack();
        judge.fresh = false;
        return net.undoable;
    }

    public int keep() {
        net.keepImage();
        return net.pipesLaid();
    }

    public int back() {
        if (!net.imaged) {
            return NONE;
        }
        net.takeImage();
        judge.fresh = false;
        return net.pipesLaid();
    }

    public int count(int what) {
        switch (what) {
            case 0: return town.corners;
            case 1: return town.streets;
            case 2: return town.pipes;
            case 3: return town.rains;
            case 4: return town.laws.knots;
            case 5: return net.pipesLaid();
            case 6: return town.river;
            case 7: return town.level;
            case 8: return net.undoable;
            default: return NONE;
        }
    }

    /** What a TEXT tells. */
    private static final class Town {
        static final int HEIGHT = 0;
        static final int AREA = 1;
        static final int ROCK = 2;
        static final int NAME = 3;
        static final int FROM = 0;
        static final int TO = 1;
        static final int LENGTH = 2;
        static final int RUNS = 3;
        static final int RISK = 4;
        static final int WIDE = 0;
        static final int PRICE = 1;
        static final int LEAST = 0;
        static final int MOST = 1;
        static final int CORNER_NAMES = 0;
        static final int RAIN_NAMES = 1;

        int corners;
        final int[][] corner = new int[CORNERS_MOST][4];
        int river;
        int level;
        int streets;
        final int[][] street = new int[STREETS_MOST][5];
        int pipes;
        final int[][] pipe = new int[PIPES_MOST][2];
        int rains;
        final int[] rainName = new int[RAINS_MOST];
        final int[][] rain = new int[RAINS_MOST][RAIN_HOURS_MOST];
        final int[] falls = new int[2];
        final int[] cover = new int[2];
        int cart;
        // One bit for each LINE that may be told once only, by the number of its word.
        int told;
        final Laws laws = new Laws();

        Town() {
            clear();
        }

        void clear() {
            corners = 0;
            river = NONE;
            level = NONE;
            streets = 0;
            pipes = 0;
            rains = 0;
            falls[LEAST] = 1;
            falls[MOST] = 9;
            cover[LEAST] = 2;
            cover[MOST] = 8;
            cart = 1;
            told = 0;
            laws.clear();
        }

        boolean isCorner(int number) {
            return number >= 0 && number < corners;
        }

        boolean isStreet(int number) {
            return number >= 0 && number < streets;
        }

        boolean isPipe(int number) {
            return number >= 0 && number < pipes;
        }

        boolean isRain(int number) {
            return number >= 0 && number < rains;
        }

        int find(int kind, int letters) {
            for (int i = 0; kind == CORNER_NAMES && i < corners; i++) {
                if (corner[i][NAME] == letters) {
                    return i;
                }
            }
            for (int i = 0; kind == RAIN_NAMES && i < rains; i++) {
                if (rainName[i] == letters) {
                    return i;
                }
            }
            return NONE;
        }

        boolean touches(int way, int at) {
            return street[way][FROM] == at || street[way][TO] == at;
        }

        int otherEnd(int way, int at) {
            return street[way][FROM] == at ? street[way][TO] : street[way][FROM];
        }

        int endBits(int way) {
            return 1 << street[way][FROM] | 1 << street[way][TO];
        }

        boolean isJoined(int one, int other) {
            for (int way = 0; way < streets; way++) {
                if (endBits(way) == (1 << one | 1 << other)) {
                    return true;
                }
            }
            return false;
        }

        int fallByLength(int way, int fall) {
            int length = street[way][LENGTH];
            return length > 0 ? fall / length : 0;
        }

        int rockyAt(int at, int deep) {
            return Math.max(0, deep - corner[at][ROCK]);
        }
    }

    /** The laws carry, dig and pump, each as a row of knots with every sign behind its two sides. */
    private static final class Laws {
        static final int CARRY = 0;
        static final int DIG = 1;
        static final int PUMP = 2;
        static final int KNOTS_MOST = 64;
        static final int NUMBER = 0;
        static final int NAME = 1;
        static final int OR = 2;
        static final int AND = 3;
        static final int NOT = 4;
        static final int BELOW = 5;
        static final int BELOW_OR_SAME = 6;
        static final int SAME = 7;
        static final int UNLIKE = 8;
        static final int ABOVE_OR_SAME = 9;
        static final int ABOVE = 10;
        static final int PLUS = 11;
        static final int MINUS = 12;
        static final int TIMES = 13;
        static final int BY = 14;

        private static final int WIDE = 0;
        private static final int FALL = 1;
        private static final int DEEP = 2;
        private static final int ROCKY = 3;
        private static final int LIFT = 4;
        private static final int FLOW = 5;
        private static final long VALUE_MOST = 1_000_000_000_000L;
        private static final long ERROR = Long.MIN_VALUE;
        private static final long DEAR = 9999;

        int knots;
        private int length;
        private final int[] sign = new int[KNOTS_MOST];
        private final int[] operand = new int[KNOTS_MOST];
        private final int[] begin = new int[3];
        private final int[] behind = new int[3];
        private final long[] name = new long[6];
        private final long[] stack = new long[KNOTS_MOST];

        void clear() {
            knots = 0;
            length = 0;
            Arrays.fill(begin, 0);
            Arrays.fill(behind, 0);
        }

        boolean isTold(int kind) {
            return behind[kind] > begin[kind];
        }

        void start(int kind) {
            begin[kind] = length;
        }

        void finish(int kind) {
            behind[kind] = length;
        }

        void append(int knotSign, int knotOperand) {
            if (length < KNOTS_MOST) {
                sign[length] = knotSign;
                operand[length] = knotOperand;
                length++;
            }
        }

        long carried(int wide, int fall) {
            if (!isTold(CARRY)) {
                return Math.max(0L, (long) wide * fall);
            }
            Arrays.fill(name, 0);
            name[WIDE] = wide;
            name[FALL] = fall;
            long value = work(CARRY);
            return value == ERROR ? 0 : Math.max(0, value);
        }

        long digs(int wide, int deep, int rocky) {
            if (!isTold(DIG)) {
                return deep;
            }
            Arrays.fill(name, 0);
            name[WIDE] = wide;
            name[DEEP] = deep;
            name[ROCKY] = rocky;
            long value = work(DIG);
            return value == ERROR ? DEAR : Math.max(0, value);
        }

        long pumps(int lift, long flow) {
            if (!isTold(PUMP)) {
                return 0;
            }
            Arrays.fill(name, 0);
            name[LIFT] = lift;
            name[FLOW] = flow;
            long value = work(PUMP);
            return value == ERROR ? DEAR : Math.max(0, value);
        }

        private long work(int kind) {
            int top = 0;
            for (int i = begin[kind]; i < behind[kind]; i++) {
                if (sign[i] == NUMBER || sign[i] == NAME) {
                    if (top >= KNOTS_MOST) {
                        return ERROR;
                    }
                    stack[top] = sign[i] == NUMBER ? operand[i] : name[operand[i]];
                    top++;
                    continue;
                }
                int sides = sign[i] == NOT ? 1 : 2;
                if (top < sides) {
                    return ERROR;
                }
                top -= sides - 1;
                long left = stack[top - 1];
                long value = sides == 1 ? truth(left == 0) : joined(sign[i], left, stack[top]);
                if (value > VALUE_MOST || value < -VALUE_MOST) {
                    return ERROR;
                }
                stack[top - 1] = value;
            }
            return top == 1 ? stack[0] : ERROR;
        }

        private static long truth(boolean holds) {
            return holds ? 1 : 0;
        }

        private static long joined(int how, long x, long y) {
            switch (how) {
                case OR: return x != 0 || y != 0 ? 1 : 0;
                case AND: return x != 0 && y != 0 ? 1 : 0;
                case BELOW: return x < y ? 1 : 0;
                case BELOW_OR_SAME: return x <= y ? 1 : 0;
                case SAME: return x == y ? 1 : 0;
                case UNLIKE: return x != y ? 1 : 0;
                case ABOVE_OR_SAME: return x >= y ? 1 : 0;
                case ABOVE: return x > y ? 1 : 0;
                case PLUS: return x + y;
                case MINUS: return x - y;
                case TIMES:
                    // Both are below 10 to the 12, so only a look ahead keeps the product in a long.
                    return y != 0 && (x < 0 ? -x : x) > VALUE_MOST / (y < 0 ? -y : y) ? ERROR : x * y;
                case BY: return y == 0 ? ERROR : x / y;
                default: return ERROR;
            }
        }
    }

    /** The TOKENS of a TEXT: all are cut out first, then they are handed out one at a time. */
    private static final class Tokens {
        static final int END = 0;
        static final int WORD = 1;
        static final int KEY = 2;
        static final int NUMBER = 3;
        static final int SIGN = 4;
        static final int BAD = 5;

        static final int CORNER = 0;
        static final int RIVER = 1;
        static final int STREET = 2;
        static final int PIPE = 3;
        static final int FALLS = 4;
        static final int COVER = 5;
        static final int RAIN = 6;
        static final int LAW = 7;
        static final int CART = 8;
        static final int ROCK = 9;
        static final int HOURS_WORD = 10;
        static final int RISK = 11;
        static final int CARRY = 12;
        static final int PUMP = 14;
        static final int WIDE = 15;
        static final int FLOW = 20;
        static final int OR = 21;
        static final int AND = 22;
        static final int NOT = 23;

        static final int SEMICOLON = 30;
        static final int OPEN = 31;
        static final int CLOSE = 32;

        private static final int LETTERS_MOST = 6;
        private static final int KEYS = 24;
        // Six characters for each word, in the order of the numbers above.
        private static final String LINE_WORDS = "cornerriver streetpipe  falls cover rain  law   cart  rock  hours risk  ";
        private static final String LAW_WORDS = "carry dig   pump  wide  fall  deep  rocky lift  flow  or    and   not   ";
        // No number of the language is that great, and ten times it still is an int.
        private static final int TOO_GREAT = 1_000_000;

        private final byte[] bytes;
        private final int[] keys = new int[KEYS];
        private final int[] kinds = new int[TAPE_MOST + 1];
        private final int[] values = new int[TAPE_MOST + 1];
        private final int[] places = new int[TAPE_MOST + 1];
        private int length;
        private int next;
        private int current;
        int kind;
        int value;
        int place;

        Tokens(byte[] tape) {
            bytes = tape;
            writeKeys(LINE_WORDS, CORNER);
            writeKeys(LAW_WORDS, CARRY);
        }

        private void writeKeys(String words, int firstKey) {
            for (int i = 0; i < words.length() && firstKey + i / LETTERS_MOST < KEYS; i++) {
                int sign = words.charAt(i);
                int key = firstKey + i / LETTERS_MOST;
                keys[key] = keys[key] << 5 | (isLetter(sign) ? sign - 'a' + 1 : 0);
            }
        }

        void start(int n) {
            length = Math.min(n, bytes.length);
            next = 0;
            kind = NUMBER;
            for (int i = 0; i <= TAPE_MOST && kind != END; i++) {
                cut();
                kinds[i] = kind;
                values[i] = value;
                places[i] = place;
            }
            current = NONE;
            step();
        }

        // The END is handed out for ever.
        void step() {
            if (current < TAPE_MOST && (current < 0 || kinds[current] != END)) {
                current++;
                kind = kinds[current];
                value = values[current];
                place = places[current];
            }
        }

        boolean isKey(int word) {
            return kind == KEY && value == word;
        }

        boolean isSign(int sign) {
            return kind == SIGN && value == sign;
        }

        private void cut() {
            while (next < length && (bytes[next] == 10 || bytes[next] == 32)) {
                next++;
            }
            place = next;
            if (next >= length) {
                kind = END;
            } else if (isLetter(bytes[next])) {
                cutWord();
            } else if (isDigit(bytes[next])) {
                cutNumber();
            } else {
                cutSign();
            }
        }

        private static boolean isLetter(int sign) {
            return sign >= 'a' && sign <= 'z';
        }

        private static boolean isDigit(int sign) {
            return sign >= '0' && sign <= '9';
        }

        private void cutWord() {
            int letters = 0;
            value = 0;
            while (next < length && isLetter(bytes[next])) {
                if (letters < LETTERS_MOST) {
                    value |= (bytes[next] - 'a' + 1) << 5 * (LETTERS_MOST - 1 - letters);
                }
                letters++;
                next++;
            }
            kind = letters > LETTERS_MOST ? BAD : WORD;
            for (int key = 0; kind == WORD && key < KEYS; key++) {
                if (keys[key] == value) {
                    kind = KEY;
                    value = key;
                }
            }
        }

        private void cutNumber() {
            kind = NUMBER;
            value = 0;
            while (next < length && isDigit(bytes[next])) {
                value = Math.min(TOO_GREAT, value * 10 + bytes[next] - '0');
                next++;
            }
        }

        private void cutSign() {
            int sign = bytes[next];
            next++;
            kind = SIGN;
            switch (sign) {
                case ';': value = SEMICOLON; break;
                case '(': value = OPEN; break;
                case ')': value = CLOSE; break;
                case '+': value = Laws.PLUS; break;
                case '-': value = Laws.MINUS; break;
                case '*': value = Laws.TIMES; break;
                case '/': value = Laws.BY; break;
                case '=': value = Laws.SAME; break;
                case '<': value = goesOn('=') ? Laws.BELOW_OR_SAME : goesOn('>') ? Laws.UNLIKE : Laws.BELOW; break;
                case '>': value = goesOn('=') ? Laws.ABOVE_OR_SAME : Laws.ABOVE; break;
                default: kind = BAD; break;
            }
        }

        private boolean goesOn(int sign) {
            if (next >= length || bytes[next] != sign) {
                return false;
            }
            next++;
            return true;
        }
    }

    /** Reads a TEXT into a town and tells its first FAULT. */
    private static final class TextReader {
        static final int MISPLACED = 1;
        static final int TOO_MUCH = 2;
        static final int TOLD = 3;
        static final int UNTOLD = 4;
        static final int TO_ITSELF = 5;

        private final Tokens scan;
        private final Formula formula;
        private Town town;
        int fault = 0;
        int place = NONE;

        TextReader(byte[] tape, Town first) {
            scan = new Tokens(tape);
            formula = new Formula(scan, first.laws);
            town = first;
        }

        int read(Town into, int n) {
            town = into;
            town.clear();
            fault = 0;
            place = NONE;
            scan.start(n);
            int lines = 0;
            while (lines < TAPE_MOST && scan.kind != Tokens.END) {
                if (!readLine()) {
                    return NONE;
                }
                if (!scan.isSign(Tokens.SEMICOLON)) {
                    fail(MISPLACED);
                    return NONE;
                }
                scan.step();
                lines++;
            }
            return lines;
        }

        private boolean fail(int which) {
            fault = which;
            place = scan.place;
            return false;
        }

        private boolean readLine() {
            if (scan.kind != Tokens.KEY) {
                return fail(MISPLACED);
            }
            switch (scan.value) {
                case Tokens.CORNER: return readCorner();
                case Tokens.RIVER: return readRiver();
                case Tokens.STREET: return readStreet();
                case Tokens.PIPE: return readPipe();
                case Tokens.FALLS: return readLimits(town.falls, 99);
                case Tokens.COVER: return readLimits(town.cover, DEEPEST);
                case Tokens.RAIN: return readRain();
                case Tokens.LAW: return readLaw();
                case Tokens.CART: return readCart();
                default: return fail(MISPLACED);
            }
        }

        private boolean readCorner() {
            if (town.corners >= CORNERS_MOST) {
                return fail(TOO_MUCH);
            }
            scan.step();
            int[] row = town.corner[town.corners];
            row[Town.NAME] = readNewName(Town.CORNER_NAMES);
            boolean fine = row[Town.NAME] != NONE
                && readInto(row, Town.HEIGHT, 0, 999)
                && readInto(row, Town.AREA, 0, 99)
                && readOption(Tokens.ROCK, row, Town.ROCK, 20, 20);
            if (fine) {
                town.corners++;
            }
            return fine;
        }

        private boolean readRiver() {
            if (!tellOnce(Tokens.RIVER)) {
                return false;
            }
            town.river = readCornerName();
            if (town.river == NONE) {
                return false;
            }
            town.level = readNumber(0, 999);
            return town.level != NONE;
        }

        private boolean readStreet() {
            if (town.streets >= STREETS_MOST) {
                return fail(TOO_MUCH);
            }
            scan.step();
            int[] row = town.street[town.streets];
            row[Town.FROM] = readCornerName();
            boolean fine = row[Town.FROM] != NONE
                && readOtherEnd(row)
                && readInto(row, Town.LENGTH, 1, 99)
                && readOption(Tokens.HOURS_WORD, row, Town.RUNS, 3, 0)
                && readOption(Tokens.RISK, row, Town.RISK, 99, 1);
            if (fine) {
                town.streets++;
            }
            return fine;
        }

        private boolean readOtherEnd(int[] row) {
            int corner = findCorner();
            if (corner == NONE) {
                return false;
            }
            if (corner == row[Town.FROM]) {
                return fail(TO_ITSELF);
            }
            if (town.isJoined(row[Town.FROM], corner)) {
                return fail(TOLD);
            }
            row[Town.TO] = corner;
            scan.step();
            return true;
        }

        private boolean readPipe() {
            if (town.pipes >= PIPES_MOST) {
                return fail(TOO_MUCH);
            }
            scan.step();
            int least = town.pipes == 0 ? 1 : town.pipe[town.pipes - 1][Town.WIDE] + 1;
            int[] row = town.pipe[town.pipes];
            if (!readInto(row, Town.WIDE, least, 99) || !readInto(row, Town.PRICE, 0, 99)) {
                return false;
            }
            town.pipes++;
            return true;
        }

        private boolean readLimits(int[] row, int most) {
            return tellOnce(scan.value)
                && readInto(row, Town.LEAST, 0, most)
                && readInto(row, Town.MOST, row[Town.LEAST], most);
        }

        private boolean readRain() {
            if (town.rains >= RAINS_MOST) {
                return fail(TOO_MUCH);
            }
            scan.step();
            int name = readNewName(Town.RAIN_NAMES);
            if (name == NONE) {
                return false;
            }
            int[] row = town.rain[town.rains];
            Arrays.fill(row, 0);
            if (!readInto(row, 0, 0, 99)) {
                return false;
            }
            for (int hour = 1; hour < RAIN_HOURS_MOST && scan.kind == Tokens.NUMBER; hour++) {
                if (!readInto(row, hour, 0, 99)) {
                    return false;
                }
            }
            if (scan.kind == Tokens.NUMBER) {
                return fail(TOO_MUCH);
            }
            town.rainName[town.rains] = name;
            town.rains++;
            return true;
        }

        private boolean readLaw() {
            scan.step();
            if (scan.kind != Tokens.KEY || scan.value < Tokens.CARRY || scan.value > Tokens.PUMP) {
                return fail(MISPLACED);
            }
            int law = scan.value - Tokens.CARRY;
            if (town.laws.isTold(law)) {
                return fail(TOLD);
            }
            scan.step();
            int wrong = formula.readLaw(town.laws, law);
            return wrong == 0 || fail(wrong);
        }

        private boolean readCart() {
            if (!tellOnce(Tokens.CART)) {
                return false;
            }
            town.cart = readNumber(0, 99);
            return town.cart != NONE;
        }

        private boolean tellOnce(int word) {
            if ((town.told >> word & 1) != 0) {
                return fail(TOLD);
            }
            town.told |= 1 << word;
            scan.step();
            return true;
        }

        private int readNewName(int kind) {
            if (scan.kind != Tokens.WORD) {
                fail(MISPLACED);
                return NONE;
            }
            int name = scan.value;
            if (town.find(kind, name) != NONE) {
                fail(TOLD);
                return NONE;
            }
            scan.step();
            return name;
        }

        private int findCorner() {
            if (scan.kind != Tokens.WORD) {
                fail(MISPLACED);
                return NONE;
            }
            int corner = town.find(Town.CORNER_NAMES, scan.value);
            if (corner == NONE) {
                fail(UNTOLD);
            }
            return corner;
        }

        private int readCornerName() {
            int corner = findCorner();
            if (corner != NONE) {
                scan.step();
            }
            return corner;
        }

        private int readNumber(int least, int most) {
            if (scan.kind != Tokens.NUMBER) {
                fail(MISPLACED);
                return NONE;
            }
            int number = scan.value;
            if (number < least || number > most) {
                fail(TOO_MUCH);
                return NONE;
            }
            scan.step();
            return number;
        }

        private boolean readInto(int[] row, int at, int least, int most) {
            if (at < 0 || at >= row.length) {
                return false;
            }
            row[at] = readNumber(least, most);
            return row[at] != NONE;
        }

        private boolean readOption(int word, int[] row, int at, int most, int otherwise) {
            if (at < 0 || at >= row.length) {
                return false;
            }
            if (!scan.isKey(word)) {
                row[at] = otherwise;
                return true;
            }
            scan.step();
            return readInto(row, at, 0, most);
        }
    }

    /**
     * Reads the E of a law. Signs wait on a stack until what binds closer has been told: so brackets
     * and nots need no calls within calls.
     */
    private static final class Formula {
        private static final int NUMBER_MOST = 9999;
        private static final int OPEN_MOST = 8;
        private static final int WAITING_MOST = Laws.KNOTS_MOST + OPEN_MOST;
        private static final int COMPARES = 4;

        private final Tokens scan;
        private final int[] waiting = new int[WAITING_MOST];
        private Laws laws;
        private int top;
        private int open;
        private boolean sideDue;
        private boolean ended;

        Formula(Tokens tokens, Laws first) {
            scan = tokens;
            laws = first;
        }

        /** The FAULT at the TOKEN on which it stops; 0 at the ';' behind the E. */
        int readLaw(Laws into, int law) {
            laws = into;
            top = 0;
            open = 0;
            sideDue = true;
            ended = false;
            laws.start(law);
            for (int tokens = 0; tokens <= TAPE_MOST && !ended; tokens++) {
                int fault = sideDue ? readSide() : readSign();
                if (fault != 0) {
                    return fault;
                }
                if (!ended) {
                    scan.step();
                }
            }
            laws.finish(law);
            return 0;
        }

        private int readSide() {
            if (scan.kind == Tokens.NUMBER) {
                return scan.value > NUMBER_MOST ? TextReader.TOO_MUCH : addLeaf(Laws.NUMBER, scan.value);
            }
            if (scan.isSign(Tokens.OPEN)) {
                return openBracket();
            }
            if (scan.isKey(Tokens.NOT) && mayNegate()) {
                return addWaiting(Laws.NOT);
            }
            if (scan.kind == Tokens.KEY && scan.value >= Tokens.WIDE && scan.value <= Tokens.FLOW) {
                return addLeaf(Laws.NAME, scan.value - Tokens.WIDE);
            }
            return TextReader.MISPLACED;
        }

        private int addLeaf(int sign, int operand) {
            if (laws.knots >= Laws.KNOTS_MOST) {
                return TextReader.TOO_MUCH;
            }
            laws.knots++;
            laws.append(sign, operand);
            sideDue = false;
            return 0;
        }

        // Where a side is due, the latest waiting sign is the TOKEN just ahead.
        private boolean mayNegate() {
            return top == 0 || bindingOf(waiting[top - 1]) <= bindingOf(Laws.NOT);
        }

        private int openBracket() {
            if (open >= OPEN_MOST || top >= WAITING_MOST) {
                return TextReader.TOO_MUCH;
            }
            waiting[top] = Tokens.OPEN;
            top++;
            open++;
            return 0;
        }

        private int addWaiting(int sign) {
            if (laws.knots >= Laws.KNOTS_MOST || top >= WAITING_MOST) {
                return TextReader.TOO_MUCH;
            }
            laws.knots++;
            waiting[top] = sign;
            top++;
            sideDue = true;
            return 0;
        }

        private int readSign() {
            if (scan.isSign(Tokens.SEMICOLON) && open == 0) {
                release(1);
                ended = true;
                return 0;
            }
            if (scan.isSign(Tokens.CLOSE) && open > 0) {
                release(1);
                top--;
                open--;
                return 0;
            }
            int sign = joiningSign();
            int binding = bindingOf(sign);
            if (binding == 0) {
                return TextReader.MISPLACED;
            }
            if (binding == COMPARES) {
                release(COMPARES + 1);
                if (top > 0 && bindingOf(waiting[top - 1]) == COMPARES) {
                    return TextReader.MISPLACED;
                }
            }
            release(binding);
            return addWaiting(sign);
        }

        private int joiningSign() {
            if (scan.isKey(Tokens.OR)) {
                return Laws.OR;
            }
            if (scan.isKey(Tokens.AND)) {
                return Laws.AND;
            }
            return scan.kind == Tokens.SIGN ? scan.value : NONE;
        }

        // Down to a bracket, as that binds 0.
        private void release(int least) {
            while (top > 0 && bindingOf(waiting[top - 1]) >= least) {
                top--;
                laws.append(waiting[top], 0);
            }
        }

        private static int bindingOf(int sign) {
            switch (sign) {
                case Laws.OR: return 1;
                case Laws.AND: return 2;
                case Laws.NOT: return 3;
                case Laws.BELOW:
                case Laws.BELOW_OR_SAME:
                case Laws.SAME:
                case Laws.UNLIKE:
                case Laws.ABOVE_OR_SAME:
                case Laws.ABOVE: return COMPARES;
                case Laws.PLUS:
                case Laws.MINUS: return 5;
                case Laws.TIMES:
                case Laws.BY: return 6;
                default: return 0;
            }
        }
    }

    /** The PIPES laid, by the CORNERS from which they run, with what can be undone and the IMAGE. */
    private static final class Net {
        final int[] street = new int[CORNERS_MOST];
        final int[] width = new int[CORNERS_MOST];
        final int[] top = new int[CORNERS_MOST];
        final int[] end = new int[CORNERS_MOST];
        int undoable;
        boolean imaged;
        private final int[][] past = new int[UNDOS_MOST][4 * CORNERS_MOST];
        private int oldest;
        private final int[] image = new int[4 * CORNERS_MOST];

        Net() {
            clear();
        }

        void clear() {
            Arrays.fill(street, NONE);
            undoable = 0;
            oldest = 0;
            imaged = false;
        }

        void put(int corner, int way, int pipe, int a, int b) {
            street[corner] = way;
            width[corner] = pipe;
            top[corner] = a;
            end[corner] = b;
        }

        int pipesLaid() {
            int pipes = 0;
            for (int corner = 0; corner < CORNERS_MOST; corner++) {
                if (street[corner] != NONE) {
                    pipes++;
                }
            }
            return pipes;
        }

        void remember() {
            writeTo(past[(oldest + undoable) % UNDOS_MOST]);
            if (undoable < UNDOS_MOST) {
                undoable++;
            } else {
                oldest = (oldest + 1) % UNDOS_MOST;
            }
        }

        void goBack() {
            if (undoable > 0) {
                undoable--;
                readFrom(past[(oldest + undoable) % UNDOS_MOST]);
            }
        }

        void keepImage() {
            writeTo(image);
            imaged = true;
        }

        void takeImage() {
            readFrom(image);
            undoable = 0;
        }

        private void writeTo(int[] row) {
            System.arraycopy(street, 0, row, 0, CORNERS_MOST);
            System.arraycopy(width, 0, row, CORNERS_MOST, CORNERS_MOST);
            System.arraycopy(top, 0, row, 2 * CORNERS_MOST, CORNERS_MOST);
            System.arraycopy(end, 0, row, 3 * CORNERS_MOST, CORNERS_MOST);
        }

        private void readFrom(int[] row) {
            System.arraycopy(row, 0, street, 0, CORNERS_MOST);
            System.arraycopy(row, CORNERS_MOST, width, 0, CORNERS_MOST);
            System.arraycopy(row, 2 * CORNERS_MOST, top, 0, CORNERS_MOST);
            System.arraycopy(row, 3 * CORNERS_MOST, end, 0, CORNERS_MOST);
        }
    }

    /** Water by CORNERS, RAINS and hours, if each PIPE takes no more than its most. */
    private static final class Flows {
        final long[][] water = new long[CORNERS_MOST][RAINS_MOST * HOURS];
        final long[][] spill = new long[CORNERS_MOST][RAINS_MOST * HOURS];
        final long[] most = new long[CORNERS_MOST];
        final int[] peak = new int[CORNERS_MOST];
        private final int[] order = new int[CORNERS_MOST];
        private final int[] waits = new int[CORNERS_MOST];
        private int ordered;
        private final int[] street;
        private Town town;

        /** The street of each CORNER tells where its water runs; NONE: nowhere. */
        Flows(int[] streetOf, Town first) {
            street = streetOf;
            town = first;
            Arrays.fill(most, Long.MAX_VALUE);
        }

        void run(Town of) {
            town = of;
            for (int corner = 0; corner < town.corners; corner++) {
                rainOn(corner);
            }
            sortDownwards();
            for (int i = 0; i < ordered; i++) {
                if (street[order[i]] != NONE) {
                    passOn(order[i]);
                }
            }
            for (int corner = 0; corner < town.corners; corner++) {
                // What still waits runs in a ring.
                if (waits[corner] > 0) {
                    Arrays.fill(water[corner], 0);
                    Arrays.fill(spill[corner], 0);
                }
                findPeak(corner);
            }
        }

        long greatest(int corner) {
            return town.rains == 0 ? 0 : water[corner][peak[corner]];
        }

        private void rainOn(int corner) {
            Arrays.fill(water[corner], 0);
            int area = town.corner[corner][Town.AREA];
            for (int rain = 0; rain < town.rains; rain++) {
                for (int hour = 0; hour < RAIN_HOURS_MOST; hour++) {
                    water[corner][rain * HOURS + hour] = (long) area * town.rain[rain][hour];
                }
            }
        }

        private void sortDownwards() {
            Arrays.fill(waits, 0);
            for (int corner = 0; corner < town.corners; corner++) {
                if (street[corner] != NONE) {
                    waits[town.otherEnd(street[corner], corner)]++;
                }
            }
            ordered = 0;
            for (int corner = 0; corner < town.corners; corner++) {
                if (waits[corner] == 0) {
                    order[ordered] = corner;
                    ordered++;
                }
            }
            for (int i = 0; i < ordered; i++) {
                int way = street[order[i]];
                int to = way == NONE ? NONE : town.otherEnd(way, order[i]);
                if (to != NONE) {
                    waits[to]--;
                    if (waits[to] == 0 && ordered < CORNERS_MOST) {
                        order[ordered] = to;
                        ordered++;
                    }
                }
            }
        }

        private void passOn(int corner) {
            int to = town.otherEnd(street[corner], corner);
            int delay = town.street[street[corner]][Town.RUNS];
            for (int rain = 0; rain < town.rains; rain++) {
                for (int hour = 0; hour < HOURS; hour++) {
                    int at = rain * HOURS + hour;
                    long takes = Math.min(water[corner][at], most[corner]);
                    spill[corner][at] = water[corner][at] - takes;
                    if (hour + delay < HOURS) {
                        water[to][at + delay] += takes;
                    }
                }
            }
        }

        private void findPeak(int corner) {
            int best = 0;
            for (int at = 1; at < town.rains * HOURS; at++) {
                if (water[corner][at] > water[corner][best]) {
                    best = at;
                }
            }
            peak[corner] = best;
        }
    }

    /** The NET laid under every LAW. */
    private static final class Judge {
        final Flows plain;
        final Flows capped;
        boolean fresh;
        int law;
        int culprit;
        private final Net net;
        private Town town;

        Judge(Net laid, Town first) {
            net = laid;
            plain = new Flows(laid.street, first);
            capped = new Flows(laid.street, first);
            serve(first);
        }

        void serve(Town told) {
            town = told;
            fresh = false;
        }

        void refresh() {
            if (fresh) {
                return;
            }
            for (int corner = 0; corner < town.corners; corner++) {
                capped.most[corner] = net.street[corner] == NONE ? 0 : carriedBy(corner);
            }
            plain.run(town);
            capped.run(town);
            fresh = true;
        }

        int fallOf(int corner) {
            int to = town.otherEnd(net.street[corner], corner);
            int begins = town.corner[corner][Town.HEIGHT] - net.top[corner];
            return begins - (town.corner[to][Town.HEIGHT] - net.end[corner]);
        }

        long carriedBy(int corner) {
            int wide = town.pipe[net.width[corner]][Town.WIDE];
            return town.laws.carried(wide, town.fallByLength(net.street[corner], fallOf(corner)));
        }

        long pipeCost(int corner) {
            int[] pipe = town.pipe[net.width[corner]];
            int deep = (net.top[corner] + net.end[corner]) / 2;
            long dug = town.laws.digs(pipe[Town.WIDE], deep, town.rockyAt(corner, deep));
            return town.street[net.street[corner]][Town.LENGTH] * (pipe[Town.PRICE] + dug);
        }

        long pumpCost(int corner) {
            int lift = liftAt(corner);
            if (lift == 0) {
                return 0;
            }
            refresh();
            return town.laws.pumps(lift, plain.greatest(corner));
        }

        private boolean runsTo(int from, int to) {
            return net.street[from] != NONE && town.otherEnd(net.street[from], from) == to;
        }

        private int liftAt(int corner) {
            int lift = 0;
            for (int from = 0; from < town.corners; from++) {
                if (runsTo(from, corner)) {
                    lift = Math.max(lift, net.end[from] - net.top[corner]);
                }
            }
            return lift;
        }

        private boolean meetsWider(int corner) {
            for (int from = 0; from < town.corners; from++) {
                if (runsTo(from, corner) && net.width[from] > net.width[corner]) {
                    return true;
                }
            }
            return false;
        }

        private boolean isCovered(int deep) {
            return deep >= town.cover[Town.LEAST] && deep <= town.cover[Town.MOST];
        }

        int lawBrokenBy(int corner) {
            if (!isCovered(net.top[corner]) || !isCovered(net.end[corner])) {
                return 1;
            }
            int fall = fallOf(corner);
            int length = town.street[net.street[corner]][Town.LENGTH];
            if (fall < length * town.falls[Town.LEAST]) {
                return 2;
            }
            if (fall > length * town.falls[Town.MOST]) {
                return 3;
            }
            if (meetsWider(corner)) {
                return 4;
            }
            if (liftAt(corner) > 0 && !town.laws.isTold(Laws.PUMP)) {
                return 5;
            }
            refresh();
            return plain.greatest(corner) > carriedBy(corner) ? 6 : 0;
        }

        /** LAW 7. */
        boolean allRunOut() {
            if (town.river == NONE) {
                return false;
            }
            int arrived = 1 << town.river;
            // A PIPE is at most as many steps away from the river as there are CORNERS.
            for (int step = 1; step < town.corners; step++) {
                for (int corner = 0; corner < town.corners; corner++) {
                    int way = net.street[corner];
                    if (way != NONE && (arrived >> town.otherEnd(way, corner) & 1) != 0) {
                        arrived |= 1 << corner;
                    }
                }
            }
            return arrived == (1 << town.corners) - 1;
        }

        void judgeNet() {
            law = 7;
            culprit = NONE;
            if (!allRunOut()) {
                return;
            }
            for (int corner = 0; corner < town.corners; corner++) {
                int broken = net.street[corner] == NONE ? 0 : lawBrokenBy(corner);
                if (broken != 0) {
                    law = broken;
                    culprit = corner;
                    return;
                }
            }
            law = 0;
            for (int corner = town.corners - 1; corner >= 0; corner--) {
                if (runsTo(corner, town.river) && endsBelowRiver(corner)) {
                    law = 8;
                    culprit = corner;
                }
            }
        }

        private boolean endsBelowRiver(int corner) {
            return town.corner[town.river][Town.HEIGHT] - net.end[corner] < town.level;
        }

        int burstOf(int corner) {
            refresh();
            long flow = plain.greatest(corner);
            if (flow <= 0) {
                return BURST_MOST;
            }
            return (int) Math.min(BURST_MOST, carriedBy(corner) * 100 / flow + 1);
        }

        int dangerOf(int corner) {
            int through = 1 << corner;
            for (int step = 1; step < town.corners; step++) {
                for (int from = 0; from < town.corners; from++) {
                    int way = net.street[from];
                    if (way != NONE && (through >> town.otherEnd(way, from) & 1) != 0) {
                        through |= 1 << from;
                    }
                }
            }
            int area = 0;
            for (int from = 0; from < town.corners; from++) {
                area += (through >> from & 1) * town.corner[from][Town.AREA];
            }
            return area * town.street[net.street[corner]][Town.RISK];
        }
    }

    /** All sets of STREETS: which are TREES, and the least COST of each, worked out once a TEXT. */
    private static final class Trees {
        private static final int SETS = 1 << STREETS_MOST;
        private static final long UNKNOWN = -9;

        long least;
        int leastStreets;
        int sets;
        private final Depths depths;
        private final long[] cost = new long[SETS];
        private final long[] key = new long[SETS];
        private Town town;
        private boolean settled;

        Trees(Town first) {
            depths = new Depths(first);
            serve(first);
        }

        void serve(Town told) {
            town = told;
            settled = false;
            Arrays.fill(cost, UNKNOWN);
            depths.serve(told);
        }

        long costOf(int streets) {
            if (streets < 0 || streets >= 1 << town.streets || streets >= SETS) {
                return NONE;
            }
            if (cost[streets] == UNKNOWN) {
                cost[streets] = joinsAll(streets) ? depths.solve(streets) : NONE;
                key[streets] = depths.key;
            }
            return cost[streets];
        }

        private boolean joinsAll(int streets) {
            if (town.corners == 0 || Integer.bitCount(streets) != town.corners - 1) {
                return false;
            }
            int reached = 1;
            for (int step = 1; step < town.corners; step++) {
                for (int way = 0; way < town.streets; way++) {
                    int ends = town.endBits(way);
                    if ((streets >> way & 1) != 0 && (reached & ends) != 0) {
                        reached |= ends;
                    }
                }
            }
            return reached == (1 << town.corners) - 1;
        }

        void layInto(Net net, int streets) {
            if (streets >= 0 && streets < SETS) {
                depths.layInto(net, streets, key[streets]);
            }
        }

        void settle() {
            if (settled) {
                return;
            }
            settled = true;
            sets = 0;
            for (int streets = 0; streets < 1 << town.streets; streets++) {
                if (costOf(streets) != NONE) {
                    sets++;
                }
            }
            leastStreets = bestAvoiding(0);
            least = leastStreets == NONE ? MISSING : cost[leastStreets];
        }

        long leastAvoiding(int barred) {
            int streets = bestAvoiding(barred);
            return streets == NONE ? MISSING : cost[streets];
        }

        private int bestAvoiding(int barred) {
            int best = NONE;
            for (int streets = 0; streets < 1 << town.streets; streets++) {
                if ((streets & barred) == 0 && cost[streets] >= 0 && (best == NONE || cost[streets] < cost[best])) {
                    best = streets;
                }
            }
            return best;
        }
    }

    /**
     * The CHEAPEST NET of a TREE, from its far ends to the river. What a CORNER's branch costs depends,
     * for what lies below, on the width of its PIPE and on how deep that comes only: so a table of these
     * two is kept of each CORNER. With each cost goes a key, ten bits for each PIPE (width, a, b), the
     * first CORNER highest: costs and keys of branches add up, and of equal costs the least key is due.
     */
    private static final class Depths {
        private static final long NEVER = 100_000_000_000_000_000L;
        private static final int CELLS = PIPES_MOST * DEPTHS;
        private static final int KEY = CELLS;
        private static final int PIPE_BITS = 10;
        private static final int FALLS = 100;

        long key;
        private final int[] street = new int[CORNERS_MOST];
        private final Flows flows;
        private final int[] order = new int[CORNERS_MOST];
        private int reached;
        // The STREETS of the branch of which a CORNER's table stands.
        private final int[] branch = new int[CORNERS_MOST];
        private final int[] filled = new int[CORNERS_MOST];
        private final int[] child = new int[CORNERS_MOST];
        private int children;
        // Each row: costs by width and depth, then their keys. PIPES of a width or narrower that come
        // at a depth, and those that come at it or above it.
        private final long[][] exact = new long[CORNERS_MOST][2 * CELLS];
        private final long[][] under = new long[CORNERS_MOST][2 * CELLS];
        // The same of all branches that come to one CORNER: the deepest of them at a depth, or all under it.
        private final long[] deepestAt = new long[2 * CELLS];
        private final long[] noneBelow = new long[2 * CELLS];
        private final long[] lifting = new long[DEPTHS];
        private final long[][] digging = new long[CORNERS_MOST][CELLS];
        private final long[][] carrying = new long[PIPES_MOST][FALLS];
        private boolean priced;
        private Town town;
        private long entryCost;
        private long entryKey;

        Depths(Town first) {
            flows = new Flows(street, first);
            serve(first);
        }

        void serve(Town told) {
            town = told;
            priced = false;
            Arrays.fill(filled, NONE);
        }

        /** The least COST in a TREE, with its key; MISSING without a lawful NET. */
        long solve(int streets) {
            key = 0;
            if (town.river == NONE) {
                return MISSING;
            }
            if (!priced) {
                price();
            }
            orient(streets);
            flows.run(town);
            for (int i = reached - 1; i > 0; i--) {
                gather(order[i]);
                if (isNew(order[i])) {
                    priceLifts(order[i]);
                    fill(order[i]);
                }
            }
            gather(town.river);
            return total();
        }

        private void price() {
            priced = true;
            for (int width = 0; width < town.pipes; width++) {
                int wide = town.pipe[width][Town.WIDE];
                for (int fall = town.falls[Town.LEAST]; fall <= town.falls[Town.MOST] && fall < FALLS; fall++) {
                    carrying[width][fall] = town.laws.carried(wide, fall);
                }
                for (int corner = 0; corner < town.corners; corner++) {
                    for (int deep = town.cover[Town.LEAST]; deep <= town.cover[Town.MOST]; deep++) {
                        digging[corner][width * DEPTHS + deep] =
                            town.laws.digs(wide, deep, town.rockyAt(corner, deep));
                    }
                }
            }
        }

        private void orient(int streets) {
            Arrays.fill(street, NONE);
            order[0] = town.river;
            reached = 1;
            int met = 1 << town.river;
            for (int i = 0; i < reached; i++) {
                for (int way = 0; way < town.streets; way++) {
                    if ((streets >> way & 1) == 0 || !town.touches(way, order[i])) {
                        continue;
                    }
                    int other = town.otherEnd(way, order[i]);
                    if ((met >> other & 1) == 0 && reached < CORNERS_MOST) {
                        met |= 1 << other;
                        street[other] = way;
                        order[reached] = other;
                        reached++;
                    }
                }
            }
        }

        private void gather(int corner) {
            children = 0;
            for (int from = 0; from < town.corners; from++) {
                if (street[from] != NONE && town.otherEnd(street[from], from) == corner) {
                    child[children] = from;
                    children++;
                }
            }
        }

        // Most TREES share branches with the one ahead, so a table stands until its branch is another one.
        private boolean isNew(int corner) {
            int ways = 1 << street[corner];
            for (int i = 0; i < children; i++) {
                ways |= branch[child[i]];
            }
            branch[corner] = ways;
            int tag = street[corner] << STREETS_MOST | ways;
            if (filled[corner] == tag) {
                return false;
            }
            filled[corner] = tag;
            return true;
        }

        private void priceLifts(int corner) {
            for (int lift = 1; lift < DEPTHS && children > 0; lift++) {
                lifting[lift] = town.laws.pumps(lift, flows.greatest(corner));
            }
        }

        private void fill(int corner) {
            Arrays.fill(exact[corner], NEVER);
            for (int width = 0; width < town.pipes; width++) {
                for (int deep = town.cover[Town.LEAST]; deep <= town.cover[Town.MOST]; deep++) {
                    joinBranches(width * DEPTHS + deep, deep > town.cover[Town.LEAST]);
                }
                for (int a = town.cover[Town.LEAST]; a <= town.cover[Town.MOST]; a++) {
                    enter(width, a);
                    if (entryCost < NEVER) {
                        layEnds(corner, width, a);
                    }
                }
            }
            spread(exact[corner], under[corner]);
        }

        private void joinBranches(int at, boolean hasAbove) {
            long cost = 0;
            long costKey = 0;
            long aboveCost = 0;
            long aboveKey = 0;
            long deepCost = NEVER;
            long deepKey = 0;
            for (int i = 0; i < children; i++) {
                long[] upTo = under[child[i]];
                long[] just = exact[child[i]];
                long goesOnCost = deepCost + upTo[at];
                long goesOnKey = deepKey + upTo[KEY + at];
                deepCost = aboveCost + just[at];
                deepKey = aboveKey + just[KEY + at];
                if (isLess(goesOnCost, goesOnKey, deepCost, deepKey)) {
                    deepCost = goesOnCost;
                    deepKey = goesOnKey;
                }
                aboveCost += hasAbove ? upTo[at - 1] : NEVER;
                aboveKey += hasAbove ? upTo[KEY + at - 1] : 0;
                cost += upTo[at];
                costKey += upTo[KEY + at];
            }
            noneBelow[at] = Math.min(NEVER, cost);
            noneBelow[KEY + at] = costKey;
            deepestAt[at] = Math.min(NEVER, deepCost);
            deepestAt[KEY + at] = deepKey;
        }

        private static boolean isLess(long cost, long costKey, long otherCost, long otherKey) {
            return cost < otherCost || cost == otherCost && costKey < otherKey;
        }

        private void enter(int width, int a) {
            int at = width * DEPTHS + a;
            entryCost = noneBelow[at];
            entryKey = noneBelow[KEY + at];
            if (children == 0 || !town.laws.isTold(Laws.PUMP)) {
                return;
            }
            for (int deep = a + 1; deep <= town.cover[Town.MOST]; deep++) {
                int from = width * DEPTHS + deep;
                long cost = deepestAt[from] + lifting[deep - a];
                if (isLess(cost, deepestAt[KEY + from], entryCost, entryKey)) {
                    entryCost = cost;
                    entryKey = deepestAt[KEY + from];
                }
            }
        }

        private void layEnds(int corner, int width, int a) {
            int way = street[corner];
            int to = town.otherEnd(way, corner);
            int length = town.street[way][Town.LENGTH];
            int drop = town.corner[corner][Town.HEIGHT] - a - town.corner[to][Town.HEIGHT];
            int least = Math.max(town.cover[Town.LEAST], length * town.falls[Town.LEAST] - drop);
            int most = Math.min(town.cover[Town.MOST], length * town.falls[Town.MOST] - drop);
            if (to == town.river) {
                most = Math.min(most, town.corner[to][Town.HEIGHT] - town.level);
            }
            long needed = flows.greatest(corner);
            long unit = 1L << shiftOf(corner);
            for (int b = least; b <= most; b++) {
                if (carrying[width][town.fallByLength(way, drop + b)] >= needed) {
                    long each = town.pipe[width][Town.PRICE] + digging[corner][width * DEPTHS + (a + b) / 2];
                    long costKey = entryKey + (width << 8 | a << 4 | b) * unit;
                    offer(exact[corner], width * DEPTHS + b, entryCost + length * each, costKey);
                }
            }
        }

        private static void offer(long[] row, int at, long cost, long costKey) {
            if (isLess(cost, costKey, row[at], row[KEY + at])) {
                row[at] = cost;
                row[KEY + at] = costKey;
            }
        }

        private int shiftOf(int corner) {
            int rank = corner > town.river ? corner - 1 : corner;
            return PIPE_BITS * Math.max(0, CORNERS_MOST - 2 - rank);
        }

        private void spread(long[] just, long[] upTo) {
            for (int width = 0; width < town.pipes; width++) {
                for (int deep = town.cover[Town.LEAST]; deep <= town.cover[Town.MOST]; deep++) {
                    int at = width * DEPTHS + deep;
                    if (width > 0) {
                        offer(just, at, just[at - DEPTHS], just[KEY + at - DEPTHS]);
                    }
                    upTo[at] = just[at];
                    upTo[KEY + at] = just[KEY + at];
                    if (deep > town.cover[Town.LEAST]) {
                        offer(upTo, at, upTo[at - 1], upTo[KEY + at - 1]);
                    }
                }
            }
        }

        private long total() {
            if (children == 0) {
                return 0;
            }
            if (town.pipes == 0) {
                return MISSING;
            }
            int at = (town.pipes - 1) * DEPTHS + town.cover[Town.MOST];
            long cost = 0;
            for (int i = 0; i < children; i++) {
                cost += under[child[i]][at];
                key += under[child[i]][KEY + at];
            }
            return cost < NEVER ? cost : MISSING;
        }

        void layInto(Net net, int streets, long keyOf) {
            if (town.river == NONE) {
                return;
            }
            orient(streets);
            Arrays.fill(net.street, NONE);
            for (int i = 1; i < reached; i++) {
                int corner = order[i];
                int pipe = (int) (keyOf >> shiftOf(corner)) & 1023;
                net.put(corner, street[corner], pipe >> 8, pipe >> 4 & 15, pipe & 15);
            }
        }
    }

    /** In which order the PIPES of a NET that runs out are built. */
    private static final class Stages {
        private static final long NEVER = Long.MAX_VALUE / 2;

        long sum;
        final int[] order = new int[CORNERS_MOST];
        // By the CORNERS that come to the river already: what all later STAGES cost at least.
        private final long[] rest = new long[1 << CORNERS_MOST];
        private final Net net;
        private Town town;

        Stages(Net laid, Town first) {
            net = laid;
            town = first;
        }

        void settle(Town of) {
            town = of;
            int all = (1 << town.corners) - 1;
            rest[all] = 0;
            for (int built = all - 1; built >= 0; built--) {
                rest[built] = NEVER;
                for (int corner = 0; corner < town.corners; corner++) {
                    if (canBuild(corner, built)) {
                        rest[built] = Math.min(rest[built], carting(built) + rest[built | 1 << corner]);
                    }
                }
            }
            writeOrder();
        }

        private void writeOrder() {
            int built = 1 << town.river;
            sum = rest[built];
            for (int turn = 0; turn < town.corners - 1; turn++) {
                int next = nextAfter(built);
                order[turn] = next;
                if (next != NONE) {
                    built |= 1 << next;
                }
            }
        }

        private int nextAfter(int built) {
            for (int corner = 0; corner < town.corners; corner++) {
                if (canBuild(corner, built) && rest[built] == carting(built) + rest[built | 1 << corner]) {
                    return corner;
                }
            }
            return NONE;
        }

        private boolean canBuild(int corner, int built) {
            int way = net.street[corner];
            return way != NONE && (built >> corner & 1) == 0 && (built >> town.otherEnd(way, corner) & 1) != 0;
        }

        private long carting(int built) {
            int area = 0;
            for (int corner = 0; corner < town.corners; corner++) {
                area += (built >> corner & 1) == 0 ? town.corner[corner][Town.AREA] : 0;
            }
            return (long) town.cart * area;
        }

        long sumOf(Town of, int n, int told) {
            town = of;
            int built = 1 << town.river;
            long costs = 0;
            for (int turn = 0; turn < n; turn++) {
                int corner = told >> 4 * turn & 15;
                if (!town.isCorner(corner) || !canBuild(corner, built)) {
                    return MISSING;
                }
                costs += carting(built);
                built |= 1 << corner;
            }
            return built == (1 << town.corners) - 1 ? costs : MISSING;
        }
    }
}
