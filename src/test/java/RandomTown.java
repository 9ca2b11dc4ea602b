import java.util.ArrayList;
import java.util.Collections;
import java.util.List;
import java.util.Random;

/** Texts of towns by chance, all without a fault. */
final class RandomTown {
    private static final String[] CARRY = {"wide*fall", "wide*(fall+1)*3", "100/fall", "wide*wide*wide", "40+fall*wide-3",
        "(fall>1)*99", "fall<1 or wide>2", "9999", "wide*1000*9999*9999*9999*9999", "2-wide", "deep+lift+wide*fall*4"};
    private static final String[] DIG = {"deep", "0", "deep*deep+rocky*5", "wide*deep", "3-deep", "10/(deep-3)", "7",
        "deep*9999*9999*9999", "not deep", "deep>4 and rocky>0", "flow+fall+deep/2"};
    private static final String[] PUMP = {"lift", "lift*10+flow", "0", "5-lift", "1", "10/(lift-2)", "flow*flow-lift",
        "lift=2", "0-3", "wide+deep+lift"};

    private RandomTown() { }

    private static String pick(Random random, String[] texts) {
        return texts[random.nextInt(texts.length)];
    }

    /** steep: how much the corners' heights differ at most. */
    static String text(Random random, int corners, int steep) {
        List<String> lines = new ArrayList<>();
        for (int c = 0; c < corners; c++) {
            lines.add("corner " + (char) ('a' + c) + " " + (50 + random.nextInt(steep + 1)) + " " + random.nextInt(5)
                + (random.nextInt(3) == 0 ? " rock " + random.nextInt(6) : ""));
        }
        if (random.nextInt(12) != 0) {
            lines.add("river " + (char) ('a' + random.nextInt(corners)) + " " + (35 + random.nextInt(16)));
        }
        addStreets(random, corners, lines);
        int wide = 0;
        for (int p = random.nextInt(9) == 0 ? 0 : 1 + random.nextInt(2); p > 0; p--) {
            wide += 1 + random.nextInt(4);
            lines.add("pipe " + wide + " " + random.nextInt(4));
        }
        int least = random.nextInt(8);
        lines.add("cover " + least + " " + Math.min(12, least + random.nextInt(4)));
        if (random.nextInt(2) == 0) {
            int fall = random.nextInt(2);
            lines.add("falls " + fall + " " + (fall + random.nextInt(12)));
        }
        for (int r = random.nextInt(4); r > 0; r--) {
            StringBuilder rain = new StringBuilder("rain ").append((char) ('x' - r));
            for (int h = 1 + random.nextInt(6); h > 0; h--) {
                rain.append(' ').append(random.nextInt(4));
            }
            lines.add(rain.toString());
        }
        addLaws(random, lines);
        return String.join(random.nextBoolean() ? ";" : " ;\n", lines) + ";";
    }

    /** Level ground and pumps: pipes must dig down, and lifts are worth their cost at times. */
    static String level(Random random, int corners) {
        List<String> lines = new ArrayList<>();
        for (int c = 0; c < corners; c++) {
            lines.add("corner " + (char) ('a' + c) + " " + (50 + random.nextInt(2)) + " " + random.nextInt(3) + " rock 2");
        }
        lines.add("river " + (char) ('a' + random.nextInt(corners)) + " 40");
        addStreets(random, corners, lines);
        for (int p = 1; p <= 1 + random.nextInt(2); p++) {
            lines.add("pipe " + 3 * p + " " + p);
        }
        lines.add("cover " + random.nextInt(2) + " " + (2 + random.nextInt(2)));
        lines.add("falls 0 4");
        lines.add("rain x 1 2 1");
        lines.add("law carry 6+wide*fall");
        lines.add("law dig " + pick(random, DIG));
        lines.add("law pump " + pick(random, PUMP));
        return String.join(";", lines) + ";";
    }

    private static void addStreets(Random random, int corners, List<String> lines) {
        List<String> pairs = new ArrayList<>();
        for (int c = 0; c < corners; c++) {
            for (int d = 0; d < c; d++) {
                boolean turned = random.nextBoolean();
                pairs.add((char) ('a' + (turned ? c : d)) + " " + (char) ('a' + (turned ? d : c)));
            }
        }
        Collections.shuffle(pairs, random);
        int most = Math.min(10, pairs.size());
        for (int s = 0; s < most - random.nextInt(3); s++) {
            lines.add("street " + pairs.get(s) + " " + (1 + random.nextInt(5))
                + (random.nextInt(3) == 0 ? " hours " + random.nextInt(4) : "")
                + (random.nextInt(3) == 0 ? " risk " + random.nextInt(100) : ""));
        }
    }

    private static void addLaws(Random random, List<String> lines) {
        if (random.nextInt(2) == 0) {
            lines.add("law carry " + pick(random, CARRY));
        }
        if (random.nextInt(2) == 0) {
            lines.add("law dig " + pick(random, DIG));
        }
        if (random.nextInt(2) == 0) {
            lines.add("law pump " + pick(random, PUMP));
        }
        if (random.nextInt(2) == 0) {
            lines.add("cart " + random.nextInt(9));
        }
    }
}
