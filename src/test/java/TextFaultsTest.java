import java.util.ArrayList;
import java.util.List;
import java.util.Random;

/** Texts, whole and spoilt, read by the program and by the oracle: lines, faults and places agree. */
public final class TextFaultsTest {
    private static final String[] PIECES = {"corner", "river", "street", "pipe", "falls", "cover", "rain", "law", "cart",
        "rock", "hours", "risk", "carry", "dig", "pump", "wide", "fall", "deep", "rocky", "lift", "flow", "or", "and",
        "not", "a", "b", "c", "abcdef", "abcdefg", "0", "1", "5", "12", "13", "20", "21", "99", "100", "999", "1000",
        "9999", "10000", "99999999999999999999", "00000000000000000000000000000001", ";", "(", ")", "<", "<=", "=", "<>",
        ">=", ">", "+", "-", "*", "/", "A", "\t", "\r", "#", "\u0000", "\u00e9", "\n", "  ", "><", "=<", "<=="};

    private static final String[] BEHIND = {"", "0", "a", "=", ";", " ;", "9;"};

    public static void main(String[] args) {
        Checks checks = new Checks();
        Random random = new Random(args.length > 0 ? Long.parseLong(args[0]) : 7);
        for (int i = 0; i < 60000 && checks.isClean(); i++) {
            compare(checks, spoil(random, RandomTown.text(random, 1 + random.nextInt(7), random.nextInt(4) * 10)));
        }
        for (int i = 0; i < 20000 && checks.isClean(); i++) {
            compare(checks, "law carry " + formula(random, random.nextInt(7)) + (random.nextInt(9) == 0 ? "" : ";"));
            compare(checks, spoil(random, "law dig " + formula(random, 4) + ";law pump " + formula(random, 3) + ";"));
        }
        checks.end();
    }

    /** Grown beyond what is allowed at times: too many knots, brackets, comparisons in a row. */
    static String formula(Random random, int depth) {
        if (depth <= 0) {
            return PIECES[random.nextInt(3) == 0 ? 15 + random.nextInt(6) : 29 + random.nextInt(5)];
        }
        switch (random.nextInt(7)) {
            case 0: return "(" + formula(random, depth - 1) + ")";
            case 1: return "not " + formula(random, depth - 1);
            case 2: return "((" + formula(random, depth - 1) + "))";
            case 3: return formula(random, depth - 1) + PIECES[47 + random.nextInt(6)] + formula(random, depth - 1);
            case 4: return formula(random, depth - 1) + " and " + formula(random, depth - 1);
            case 5: return formula(random, depth - 1) + " or " + formula(random, depth - 1);
            default: return formula(random, depth - 1) + PIECES[53 + random.nextInt(4)] + formula(random, depth - 1);
        }
    }

    private static String spoil(Random random, String whole) {
        StringBuilder text = new StringBuilder(whole);
        int times = random.nextInt(3);
        for (int i = 0; i < times; i++) {
            int at = random.nextInt(text.length() + 1);
            switch (random.nextInt(5)) {
                case 0: text.setLength(at); break;
                case 1: text.insert(at, PIECES[random.nextInt(PIECES.length)]); break;
                case 2: text.insert(at, " " + PIECES[random.nextInt(PIECES.length)] + " "); break;
                case 3: text.delete(at, Math.min(text.length(), at + 1 + random.nextInt(4))); break;
                default: repeatLine(random, text); break;
            }
        }
        text.setLength(Math.min(text.length(), 700));
        return text.toString();
    }

    private static void repeatLine(Random random, StringBuilder text) {
        String[] lines = text.toString().split(";");
        if (lines.length > 0) {
            text.append(lines[random.nextInt(lines.length)]).append(';');
        }
    }

    private static void compare(Checks checks, String text) {
        if (text.length() > 690) {
            return;
        }
        RiverDrains x = new RiverDrains();
        Checks.tell(x, "law dig 1;corner q 1 1;");
        // What lies on the tape behind the text is none of it.
        Checks.feed(x, text + BEHIND[text.length() % BEHIND.length]);
        int lines = x.text(text.length());
        List<Long> got = new ArrayList<>(List.of((long) lines, (long) x.fault(0), (long) x.fault(1)));
        List<Long> want;
        try {
            Oracle due = new Oracle(text);
            want = new ArrayList<>(List.of((long) due.lines, 0L, -1L));
            got.addAll(List.of((long) x.count(0), (long) x.count(1), (long) x.count(2), (long) x.count(3), (long) x.count(4)));
            want.addAll(List.of((long) due.corners.size(), (long) due.streets.size(), (long) due.widths.size(),
                (long) due.rains.size(), (long) due.knots));
        } catch (Oracle.Fault e) {
            want = new ArrayList<>(List.of(-1L, (long) e.number, (long) e.place));
            got.addAll(List.of((long) x.count(0), (long) x.count(4)));
            want.addAll(List.of(1L, 1L));
        }
        for (int i = 0; i < want.size(); i++) {
            checks.due("row " + i + " of [" + text + "]", got.get(i), want.get(i));
        }
    }
}
