import java.util.NoSuchElementException;

/** Each promise by hand, in the document's order. */
public final class PromisesTest {
    private static final Checks CHECKS = new Checks();
    /** a and b run to c, c to the river r; d stands apart but for a street to a. */
    private static final String TOWN = "corner a 40 2 rock 3;corner b 38 3;corner c 30 1;corner r 20 0;river r 15;"
        + "street a c 5 hours 1 risk 9;street b c 4 hours 2;street c r 5 risk 2;street a b 2;"
        + "pipe 2 1;pipe 5 3;pipe 9 4;rain low 1 2;rain big 0 5 1;law pump lift*2+flow;cart 3;";

    private PromisesTest() { }

    private static void due(String call, long got, long want) {
        CHECKS.due(call, got, want);
    }

    private static void due(String call, boolean got, boolean want) {
        CHECKS.due(call, got, want);
    }

    public static void main(String[] args) {
        newObject();
        feed();
        text();
        faults();
        lawFaults();
        named();
        look();
        streetAndPipe();
        layAndTake();
        net();
        carriesAndCost();
        lawValues();
        broken();
        judged();
        flow();
        rings();
        flooded();
        worst();
        burst();
        cheapest();
        cheapestTies();
        treeAndWithout();
        stages();
        first();
        undo();
        image();
        count();
        CHECKS.end();
    }

    private static RiverDrains laidTown() {
        RiverDrains x = Checks.town(TOWN);
        x.lay(0, 0, 1, 2, 3);
        x.lay(1, 1, 1, 3, 3);
        x.lay(2, 2, 2, 3, 2);
        return x;
    }

    private static void newObject() {
        RiverDrains x = new RiverDrains();
        for (int what = 0; what <= 5; what++) {
            due("new count " + what, x.count(what), 0);
        }
        due("new count 8", x.count(8), 0);
        due("new river", x.count(6), -1);
        due("new level", x.count(7), -1);
        due("new fault", x.fault(0), 0);
        due("new place", x.fault(1), -1);
        due("new text", x.text(1), -2);
        due("new feed", x.feed(0, 0, 0, 0, 0), 20);
    }

    private static void feed() {
        RiverDrains x = new RiverDrains();
        for (int i = 1; i <= 35; i++) {
            due("feed " + i, x.feed(0x20202020, 0x0a0a0a0a, 0x20202020, 0x0a200a20, 0x20202020), 20 * i);
        }
        due("feed beyond 700", x.feed(0, 0, 0, 0, 0), -1);
        due("none came", x.text(701), -2);
        due("700 blanks", x.text(700), 0);
        due("empty then", x.feed(0x63617274, 0x20373b20, 0x20202020, 0x20202020, 0x20202020), 20);
        due("the highest byte first", x.text(7), 1);
    }

    private static void text() {
        RiverDrains x = laidTown();
        x.keep();
        due("below 0", x.text(-1), -2);
        due("lines", Checks.tell(x, "  cart\n2\n;"), 1);
        due("nothing laid", x.count(5), 0);
        due("nothing to undo", x.count(8), 0);
        due("no image", x.back(), -1);
        due("no corners of the text ahead", x.count(0), 0);
        x = laidTown();
        x.keep();
        Checks.feed(x, "corner a 1 1;corner a 1 1;");
        due("not so many", x.text(41), -2);
        due("the latest text but that", x.fault(0), 0);
        due("fault", x.text(26), -1);
        due("told already", x.fault(0), 3);
        due("at", x.fault(1), 20);
        due("what 2", x.fault(2), -1);
        due("what -1", x.fault(-1), -1);
        due("all stays laid", x.count(5), 3);
        due("all stays told", x.count(0), 4);
        due("all stays to undo", x.count(8), 3);
        due("the tape is empty", x.text(1), -2);
        due("the fault stays", x.fault(0), 3);
        due("the image stays", x.back(), 3);
        Checks.feed(x, "cart 12;");
        due("cut within a number", x.text(6), -1);
        due("its length", x.fault(1), 6);
        due("a text without lines", x.text(0), 0);
        due("no fault then", x.fault(0), 0);
        due("no place then", x.fault(1), -1);
    }

    private static void fault(String text, int number, int place) {
        RiverDrains x = new RiverDrains();
        due("text of " + text, Checks.tell(x, text), -1);
        due("fault of " + text, x.fault(0), number);
        due("place of " + text, x.fault(1), place);
    }

    private static void fine(String text, int lines) {
        RiverDrains x = new RiverDrains();
        due("text of " + text, Checks.tell(x, text), lines);
        due("fault of " + text, x.fault(0), 0);
    }

    private static void faults() {
        fault("corners a 1 1;", 1, 0);
        fault(";", 1, 0);
        fault("cart 1", 1, 6);
        fault("cart 1  ", 1, 8);
        fault("cart\t1;", 1, 4);
        fault("cart 1;#", 1, 7);
        fault("Cart 1;", 1, 0);
        fault("corner abcdefg 1 1;", 1, 7);
        fine("corner abcdef 1 1;", 1);
        fault("corner rock 1 1;", 1, 7);
        fault("corner or 1 1;", 1, 7);
        fine("corner a1 1rock1;", 1);
        fault("corner a 1000 1;", 2, 9);
        fault("corner a 999 100;", 2, 13);
        fine("corner a 999 99 rock 20;", 1);
        fault("corner a 1 1 rock 1 rock 1;", 1, 20);
        fault("corner a 99999999999999999999 1;", 2, 9);
        fine("corner a 00000000000000000001 1;", 1);
        fault("corner a 1 1;corner b 1 1;corner c 1 1;corner d 1 1;corner e 1 1;corner f 1 1;corner g 1 1;corner", 2, 91);
        fault("corner a 1 1;river a 0;river b 0;", 3, 23);
        fault("river a 0;corner a 1 1;", 4, 6);
        fault("corner a 1 1;corner b 1 1;street a b 0;", 2, 37);
        fault("corner a 1 1;corner b 1 1;street a b 1;street b a 1;", 3, 48);
        fault("corner a 1 1;street a a 1;", 5, 22);
        fault("corner a 1 1;street a c 1;", 4, 22);
        fault("corner a 1 1;corner b 1 1;street a b 1 risk 1 hours 1;", 1, 46);
        fault("corner a 1 1;corner b 1 1;street a b 1 hours 3 risk 100;", 2, 52);
        fine("corner a 1 1;corner b 1 1;street a b 99 hours 3 risk 99;", 3);
        fault(manyStreets(11), 2, manyStreets(10).length());
        fine(manyStreets(10), 15);
        fault("pipe 1 1;pipe 2 1;pipe 3 1;pipe 4 1;pipe 5 1;", 2, 36);
        fault("pipe 2 1;pipe 2 1;", 2, 14);
        fault("pipe 1 100;", 2, 7);
        fault("pipe 100 1;", 2, 5);
        fault("falls 1 2;falls 1 2;", 3, 10);
        fault("falls 100 2;", 2, 6);
        fine("falls 3 3;cover 12 12;", 2);
        fault("cover 3 2;", 2, 8);
        fault("cover 1 2;cover 1 2;", 3, 10);
        fault("rain a 1;rain a 1;", 3, 14);
        fine("corner a 1 1;rain a 0 99 1 1 1 1;", 2);
        fault("rain a 100;", 2, 7);
        fault("rain a 1 1 1 1 1 1 100;", 2, 19);
        fault("rain a 1;rain b 1;rain c 1;rain d 1;rain e 1;", 2, 36);
        fault("cart 100;", 2, 5);
        fault("cart 1;cart 1;", 3, 7);
    }

    private static String manyStreets(int streets) {
        StringBuilder text = new StringBuilder("corner a 1 1;corner b 1 1;corner c 1 1;corner d 1 1;corner e 1 1;");
        int told = 0;
        for (char one = 'a'; one <= 'e'; one++) {
            for (char other = 'a'; other < one && told < streets; other++) {
                text.append("street ").append(one).append(' ').append(other).append(" 1;");
                told++;
            }
        }
        return told < streets ? text.append("street ").toString() : text.toString();
    }

    private static void lawFaults() {
        fault("law wide 1;", 1, 4);
        fault("law carry;", 1, 9);
        fault("law carry 1", 1, 11);
        fault("law carry 1;law carry 2;", 3, 16);
        fault("law carry 10000;", 2, 10);
        fine("law carry 9999;law dig 1;law pump 1;", 3);
        fault("law carry -1;", 1, 10);
        fault("law carry 1+not 1;", 1, 12);
        fault("law carry 1<not 1;", 1, 12);
        fine("law carry not not 1 and not(1<2)<3;", 1);
        fault("law carry 1<2<3;", 1, 13);
        fault("law carry 1<2+1=3;", 1, 15);
        fault("law carry 1< =2;", 1, 13);
        fault("law carry 1=<2;", 1, 12);
        fault("law carry 1><2;", 1, 12);
        fine("law carry 1<>2 or 1<=2 or 1>=2;", 1);
        fault("law carry (1;", 1, 12);
        fault("law carry 1);", 1, 11);
        fault("law carry ();", 1, 11);
        fault("law carry 1 2;", 1, 12);
        fault("law carry abc;", 1, 10);
        fine("law carry ((((((((1))))))))+((((((((1))))))));", 1);
        fault("law carry (((((((((1)))))))));", 2, 18);
        String full = "law carry " + "1+".repeat(31) + "1;law dig not";
        fine(full.substring(0, full.indexOf(';')) + ";law dig 1;", 2);
        fault(full + " 1;", 2, full.length() + 1);
        fault(full + ")", 1, full.length());
        fine("law carry " + "not ".repeat(63) + "1;", 1);
        fault("law carry " + "not ".repeat(64) + "1;", 2, 10 + 4 * 64);
        fault("law carry " + "not ".repeat(65) + "1;", 2, 10 + 4 * 64);
    }

    private static void named() {
        RiverDrains x = Checks.town("corner abcdef 1 1;corner b 1 1;rain b 1;rain z 1;");
        due("six letters", x.named(0, Checks.letters("abcdef")), 0);
        due("one letter", x.named(0, Checks.letters("b")), 1);
        due("of another kind", x.named(1, Checks.letters("b")), 0);
        due("rain z", x.named(1, 26 << 25), 1);
        due("no corner z", x.named(0, 26 << 25), -1);
        due("not so low", x.named(0, 2), -1);
        due("no letters", x.named(0, 0), -1);
        due("what 2", x.named(2, Checks.letters("b")), -1);
        due("what -1", x.named(-1, Checks.letters("b")), -1);
        due("a bit too many", x.named(0, Checks.letters("b") | 1 << 30), -1);
    }

    private static void look() {
        RiverDrains x = Checks.town(TOWN);
        due("height", x.look(0, 0), 40);
        due("area", x.look(1, 1), 3);
        due("rock", x.look(0, 2), 3);
        due("without rock", x.look(1, 2), 20);
        due("no corner", thrownByLook(x, 4, 0), 1);
        due("corner -1", thrownByLook(x, -1, 0), 1);
        due("no corner, no what", thrownByLook(x, 4, 3), 1);
        due("no what", thrownByLook(x, 3, 3), 2);
        due("what -1", thrownByLook(x, 0, -1), 2);
    }

    private static int thrownByLook(RiverDrains x, int corner, int what) {
        try {
            x.look(corner, what);
            return 0;
        } catch (IndexOutOfBoundsException e) {
            return 1;
        } catch (NoSuchElementException e) {
            return 2;
        }
    }

    private static void streetAndPipe() {
        RiverDrains x = Checks.town(TOWN);
        int[] street = {0, 2, 5, 1, 9};
        for (int what = 0; what < 5; what++) {
            due("street 0, " + what, x.street(0, what), street[what]);
        }
        due("hours without", x.street(2, 3), 0);
        due("risk without", x.street(1, 4), 1);
        due("no what", x.street(0, 5), -1);
        due("what -1", x.street(0, -1), -1);
        due("no street", x.street(4, 0), -1);
        due("street -1", x.street(-1, 0), -1);
        due("wide", x.pipe(2, 0), 9);
        due("cost", x.pipe(1, 1), 3);
        due("no such what", x.pipe(1, 2), -1);
        due("no such pipe", x.pipe(3, 0), -1);
        due("pipe -1", x.pipe(-1, 0), -1);
    }

    private static void layAndTake() {
        RiverDrains x = Checks.town(TOWN);
        due("a street elsewhere", x.lay(0, 1, 0, 2, 2), false);
        due("no corner", x.lay(4, 0, 0, 2, 2), false);
        due("the river's", x.lay(3, 2, 0, 2, 2), false);
        due("no street", x.lay(0, 4, 0, 2, 2), false);
        due("no pipe", x.lay(0, 0, 3, 2, 2), false);
        due("a too deep", x.lay(0, 0, 0, 13, 2), false);
        due("b below 0", x.lay(0, 0, 0, 2, -1), false);
        due("nothing was", x.count(8), 0);
        due("lay", x.lay(0, 0, 0, 0, 12), true);
        due("in its place", x.lay(0, 3, 1, 12, 0), true);
        due("one", x.count(5), 1);
        due("the latter", x.net(0, 0), 3);
        due("take", x.take(0), true);
        due("none there", x.take(0), false);
        due("of no corner", x.take(7), false);
        due("nothing is left", x.count(5), 0);
        due("three changes", x.count(8), 3);
        x = Checks.town("corner a 1 1;corner b 1 1;street a b 1;pipe 1 1;");
        due("no river: each corner", x.lay(0, 0, 0, 1, 1) && x.lay(1, 0, 0, 1, 1), true);
    }

    private static void net() {
        RiverDrains x = laidTown();
        int[] due = {0, 1, 2, 3, 2, 11};
        for (int what = 0; what < 6; what++) {
            due("net 0, " + what, x.net(0, what), due[what]);
        }
        due("the river's", x.net(3, 0), -2);
        due("the river's fall", x.net(3, 5), Integer.MIN_VALUE);
        due("no what", x.net(3, 6), -1);
        due("no corner", x.net(4, 5), -1);
        due("what -1", x.net(0, -1), -1);
        x.lay(2, 0, 0, 0, 12);
        due("upwards", x.net(2, 5), 30 - (40 - 12));
        x.lay(2, 0, 0, 4, 0);
        due("below 0", x.net(2, 5), 26 - 40);
    }

    private static void carriesAndCost() {
        RiverDrains x = laidTown();
        due("carries 5 * (11 / 5)", x.carries(0), 10);
        due("none laid", x.carries(3), -1);
        due("no corner", x.carries(-1), -1);
        due("cost 5 * (3 + 2)", x.cost(0, 0), 25);
        due("no pump", x.cost(2, 1), 0);
        due("all", x.all(), 25 + 4 * (3 + 3) + 5 * (4 + 2));
        due("what 2", x.cost(0, 2), -1);
        due("cost of none", x.cost(3, 0), -1);
        x.lay(2, 2, 2, 2, 2);
        due("a lift of 1 with 17", x.cost(2, 1), 2 + 17);
        due("all with the pump", x.all(), 25 + 24 + 30 + 19);
        x.lay(0, 0, 1, 7, 8);
        due("a lift of 6", x.cost(2, 1), 12 + 17);
        x = Checks.town(TOWN.replace("law pump lift*2+flow;", "law dig deep*10+rocky;"));
        x.lay(0, 0, 0, 5, 6);
        x.lay(2, 2, 0, 5, 6);
        due("a lift without a law", x.cost(2, 1), 0);
        due("rocky 2", x.cost(0, 0), 5 * (1 + 50 + 2));
        due("no rock", x.cost(2, 0), 5 * (1 + 50));
    }

    private static long carriedBy(String law) {
        RiverDrains x = Checks.town("corner a 30 1;corner b 10 1;street a b 3;pipe 7 0;law carry " + law + ";");
        x.lay(0, 0, 0, 2, 2);
        return x.carries(0);
    }

    private static void lawValue(String law, long value) {
        due("carries by " + law, carriedBy(law), value);
    }

    private static void lawValues() {
        lawValue("wide", 7);
        lawValue("fall", 6);
        lawValue("deep+rocky+lift+flow", 0);
        lawValue("1-2", 0);
        lawValue("7-2-1", 4);
        lawValue("100/7/2", 7);
        lawValue("10+(0-7)/2", 7);
        lawValue("2+3*4", 14);
        lawValue("(2+3)*4", 20);
        lawValue("1/0+5", 0);
        lawValue("5 or 1/0", 0);
        lawValue("0 and 1/0 or 5", 0);
        lawValue("9999*9999*9999", 999_700_029_999L);
        lawValue("1000*1000*1000*1000", 1_000_000_000_000L);
        lawValue("1000*1000*1000*1000+1", 0);
        lawValue("1000*1000*1000*1000+1-1", 0);
        lawValue("5+(0-1000*1000*1000*1000-1)*0", 0);
        lawValue("5+(0-1000*1000*1000*1000)*0", 5);
        lawValue("1000*1000*1000*1000*(1000*1000*1000*1000)", 0);
        lawValue("1000*1000*1000*1000*1+(1000*1000*1000*1000)*0", 1_000_000_000_000L);
        lawValue("not 0", 1);
        lawValue("not 7", 0);
        lawValue("not not 7", 1);
        lawValue("not 1<0", 1);
        lawValue("not 0 and 0", 0);
        lawValue("1 or 0 and 0", 1);
        lawValue("3<4", 1);
        lawValue("4<=4", 1);
        lawValue("3=4", 0);
        lawValue("3<>4", 1);
        lawValue("3>=4", 0);
        lawValue("4>3", 1);
        lawValue("1+1<1+2", 1);
        lawValue("(3<4)*9", 9);
        lawValue("5 and 3", 1);
        RiverDrains x = Checks.town("corner a 30 1;corner b 10 1;corner c 40 0;street a b 3;street c a 3;pipe 7 2;"
            + "law dig 1/0;law pump 1/(lift-2);");
        x.lay(0, 0, 0, 2, 2);
        x.lay(2, 1, 0, 2, 4);
        due("dig's error", x.cost(0, 0), 3 * (2 + 9999));
        due("pump's error", x.cost(0, 1), 9999);
        x.lay(2, 1, 0, 2, 3);
        due("pump below 0", x.cost(0, 1), 0);
        x.lay(2, 1, 0, 2, 5);
        due("pump", x.cost(0, 1), 1);
    }

    private static void broken() {
        RiverDrains x = laidTown();
        due("none laid", x.broken(3), -2);
        due("no corner", x.broken(4), -1);
        due("6: 10 rain on 10", x.broken(0), 0);
        due("6: 15 rain on 10", x.broken(1), 6);
        x.lay(0, 0, 1, 1, 2);
        due("1 by a", x.broken(0), 1);
        x.lay(0, 0, 1, 2, 9);
        due("1 by b", x.broken(0), 1);
        x.lay(0, 0, 1, 8, 2);
        due("2: 4 of 5", x.broken(0), 2);
        x.lay(0, 0, 1, 7, 2);
        due("a fall of 5 is allowed", x.broken(0), 6);
        x = Checks.town(TOWN.replace("cart 3;", "falls 1 2;"));
        x.lay(0, 0, 2, 2, 3);
        due("3: 11 of 10", x.broken(0), 3);
        x.lay(0, 0, 2, 3, 3);
        due("a fall of 10 is allowed", x.broken(0), 0);
        x.lay(2, 2, 1, 2, 2);
        due("4", x.broken(2), 4);
        x.lay(2, 2, 2, 2, 2);
        due("by a pump", x.broken(2), 0);
        x = Checks.town(TOWN.replace("law pump lift*2+flow;", ""));
        x.lay(0, 0, 1, 2, 3);
        x.lay(2, 2, 2, 2, 2);
        due("5", x.broken(2), 5);
        x.lay(2, 2, 2, 3, 2);
        due("as deep, but 11 on 9", x.broken(2), 6);
    }

    private static void judged() {
        RiverDrains x = laidTown();
        due("the first corner's", x.judged(0), 6);
        due("at", x.judged(1), 1);
        due("what 2", x.judged(2), -1);
        due("what -1", x.judged(-1), -1);
        x.lay(1, 1, 2, 3, 3);
        due("9 for a flow of 17", x.judged(0), 6);
        due("at c", x.judged(1), 2);
        x = Checks.town(TOWN + "law carry 99;");
        x.lay(0, 0, 0, 2, 2);
        x.lay(2, 2, 0, 2, 6);
        due("b has none", x.judged(0), 7);
        due("7 is nowhere", x.judged(1), -1);
        x.lay(1, 1, 0, 2, 2);
        due("8: 14 below 15", x.judged(0), 8);
        due("8 at", x.judged(1), 2);
        x.lay(2, 2, 0, 2, 5);
        due("lawful", x.judged(0), 0);
        due("nowhere", x.judged(1), -1);
        x.lay(0, 3, 0, 2, 2);
        x.lay(1, 3, 0, 2, 2);
        due("a ring", x.judged(0), 7);
    }

    private static void flow() {
        RiverDrains x = laidTown();
        long[] big = {0, 5, 1 + 10, 2 + 15, 3, 0};
        for (int hour = 0; hour < 6; hour++) {
            due("flow 2, 1, " + hour, x.flow(2, 1, hour), big[hour]);
        }
        due("the last hour", x.flow(2, 1, 29), 0);
        due("behind it", x.flow(2, 1, 30), -1);
        due("ahead of it", x.flow(2, 1, -1), -1);
        due("no rain", x.flow(2, 2, 0), -1);
        due("none laid", x.flow(3, 0, 0), -1);
        due("no corner", x.flow(4, 0, 0), -1);
        x.take(2);
        due("whether it comes to the river or not", x.flow(0, 1, 1), 10);
        due("none now", x.flow(2, 1, 1), -1);
    }

    private static void rings() {
        RiverDrains x = Checks.town(TOWN);
        x.lay(0, 3, 0, 2, 2);
        x.lay(1, 3, 0, 2, 2);
        x.lay(2, 1, 0, 2, 2);
        due("in the ring", x.flow(1, 0, 0), 0);
        due("to the ring", x.flow(2, 0, 1), 2);
        due("floods of the ring", x.flooded(1, 0, 0), 0);
        due("worst of the ring", x.worst(0, 0), 0);
        due("its rain", x.worst(0, 1), 0);
        due("its hour", x.worst(0, 2), 0);
        due("burst of the ring", x.burst(0), 9999);
    }

    private static void flooded() {
        RiverDrains x = laidTown();
        due("15 less 10", x.flooded(1, 1, 1), 5);
        due("3 of 10", x.flooded(1, 1, 2), 0);
        due("what came is 17 less 5, on 9", x.flooded(2, 1, 3), 3);
        due("none laid", x.flooded(3, 0, 0), -1);
        due("no hour", x.flooded(0, 0, 30), -1);
        due("no rain", x.flooded(0, 2, 0), -1);
        due("floods", x.floods(1), 10);
        due("floods of the first", x.floods(0), 0);
        due("no such rain", x.floods(2), -1);
        due("rain -1", x.floods(-1), -1);
        x.lay(1, 1, 2, 3, 3);
        x.lay(2, 2, 0, 3, 2);
        due("all at c, that carries 2", x.floods(1), (5 - 2) + (11 - 2) + (17 - 2) + (3 - 2));
    }

    private static void worst() {
        RiverDrains x = laidTown();
        due("flow", x.worst(2, 0), 17);
        due("rain", x.worst(2, 1), 1);
        due("hour", x.worst(2, 2), 3);
        due("what 3", x.worst(2, 3), -1);
        due("none", x.worst(3, 0), -1);
        x = Checks.town("corner a 9 1;corner b 1 1;street a b 1;pipe 1 1;rain x 3 1 4;rain y 1 4 4;");
        x.lay(0, 0, 0, 0, 0);
        due("the first rain", x.worst(0, 1), 0);
        due("then the first hour", x.worst(0, 2), 2);
        x = Checks.town("corner a 9 1;corner b 1 1;street a b 1;pipe 1 1;");
        x.lay(0, 0, 0, 0, 0);
        due("no rains", x.worst(0, 0), -1);
    }

    private static void burst() {
        RiverDrains x = laidTown();
        due("1000 by 10", x.burst(0), 101);
        due("1000 by 15", x.burst(1), 67);
        due("none", x.burst(3), -1);
        due("no corner", x.burst(4), -1);
        due("900 by 17 is the first to burst", x.bursts(), 2);
        x.take(1);
        x.lay(0, 0, 0, 8, 2);
        due("carries 0", x.burst(0), 1);
        x.take(0);
        x.take(2);
        due("nothing is laid", x.bursts(), -1);
        x = Checks.town("corner a 9 1;corner b 9 0;corner c 1 1;street a c 1;street b c 1;pipe 99 1;rain x 1;law carry 9999;");
        x.lay(1, 1, 0, 0, 0);
        due("never", x.burst(1), 9999);
        due("but it is the first one", x.bursts(), 1);
        x.lay(0, 0, 0, 0, 0);
        due("beyond 9999", x.burst(0), 9999);
        due("of several the first", x.bursts(), 0);
    }

    private static void cheapest() {
        RiverDrains x = Checks.town(TOWN.replace("rain big 0 5 1;", ""));
        due("a ring", x.cheapest(11), -1);
        due("not all", x.cheapest(3), -1);
        due("too few", x.cheapest(0), -1);
        due("no such street", x.cheapest(16 + 7), -1);
        due("below 0", x.cheapest(-1), -1);
        due("far beyond", x.cheapest(Integer.MAX_VALUE), -1);
        due("a tree", x.cheapest(7) > 0, true);
        due("laid", x.laid(7), true);
        due("lawful", x.judged(0), 0);
        due("its cost", x.all(), x.cheapest(7));
        due("no tree is laid", x.laid(3), false);
        due("one change", x.count(8), 1);
        x = Checks.town("corner a 9 1;corner b 1 1;street a b 1;pipe 1 1;");
        due("no river, no lawful net", x.cheapest(1), -2);
        due("none is laid", x.laid(1), false);
        x = Checks.town("corner a 9 1;corner b 1 1;river b 0;street a b 1;");
        due("no pipes, no lawful net", x.cheapest(1), -2);
    }

    private static void cheapestTies() {
        RiverDrains x = Checks.town("corner a 10 1;corner b 10 1;corner r 10 0;river r 0;street b a 2;street a r 2;"
            + "pipe 3 1;pipe 4 1;falls 0 9;cover 1 3;law dig 5;rain z 1;law carry 9;");
        due("ties", x.laid(3), true);
        int[][] due = {{1, 0, 1, 1}, {0, 0, 1, 1}};
        for (int what = 0; what < 4; what++) {
            due("the narrowest, then a, then b: 0, " + what, x.net(0, what), due[0][what]);
            due("the narrowest, then a, then b: 1, " + what, x.net(1, what), due[1][what]);
        }
        x = Checks.town("corner a 10 1;corner b 10 1;corner r 10 0;river r 0;street b a 2;street a r 2;"
            + "pipe 3 1;pipe 4 1;falls 0 9;cover 1 3;law dig 5-wide;rain z 1;law carry 9;");
        due("the wider is cheaper", x.cheapest(3), 2 * 2 * (1 + 1));
        x.laid(3);
        due("width of a", x.net(0, 1), 1);
        due("width of b", x.net(1, 1), 1);
        x = Checks.town("corner a 10 0;corner b 12 0;corner r 2 0;river r 0;street b a 2;street a r 2;"
            + "pipe 3 0;falls 1 9;cover 0 4;law dig deep*deep;law pump lift=4;");
        due("by a pump at no cost", x.cheapest(3), 0);
    }

    private static void treeAndWithout() {
        RiverDrains x = Checks.town("corner a 20 0;corner b 16 0;corner r 10 0;river r 0;street a b 2;street b r 2;street a r 3;"
            + "pipe 1 0;cover 1 2;");
        due("least", x.tree(0), 4);
        due("least bits", x.tree(1), 3);
        due("sets", x.tree(2), 3);
        due("what 3", x.tree(3), -1);
        due("what -1", x.tree(-1), -1);
        due("without 0", x.without(0, 0), 1);
        due("without 1: up to a", x.without(1, 1), -2);
        due("without 2", x.without(2, 2), 0);
        due("without two", x.without(0, 2), -2);
        due("no street", x.without(0, 3), -1);
        due("street -1", x.without(-1, 0), -1);
        x = Checks.town("corner a 20 0;corner r 10 0;river r 11;street a r 2;pipe 1 0;");
        due("none lawful", x.tree(0), -2);
        due("no bits", x.tree(1), -2);
        due("but a tree", x.tree(2), 1);
        due("none with all", x.without(0, 0), -1);
        x = Checks.town("corner a 20 0;corner b 20 0;corner r 10 0;river r 0;street a r 2;street b r 2;street a b 2;pipe 1 0;falls 0 9;");
        due("of several the least bits", x.tree(1), 3);
    }

    private static void stages() {
        RiverDrains x = laidTown();
        due("least", x.stages(0), 3 * (6 + 5 + 2));
        due("first c", x.stages(1), 2);
        due("then b", x.stages(2), 1);
        due("then a", x.stages(3), 0);
        due("no fourth", x.stages(4), -1);
        due("what -1", x.stages(-1), -1);
        due("told", x.stage(3, 2 | 1 << 4), 39);
        due("told otherwise", x.stage(3, 2 | 1 << 8), 3 * (6 + 5 + 3));
        due("ahead of c", x.stage(3, 2 << 4 | 1 << 8), -2);
        due("twice", x.stage(3, 2 | 1 << 4 | 1 << 8), -2);
        due("the river's", x.stage(3, 2 | 1 << 4 | 3 << 8), -2);
        due("isn't there", x.stage(3, 2 | 1 << 4 | 9 << 8), -2);
        due("not all", x.stage(2, 2 | 1 << 4), -2);
        due("n 6", x.stage(6, 2 | 1 << 4), -2);
        due("no n", x.stage(7, 2 | 1 << 4), -1);
        due("n -1", x.stage(-1, 2 | 1 << 4), -1);
        x.take(0);
        due("law 7", x.stages(0), -1);
        due("law 7, told", x.stage(2, 2 | 1 << 4), -1);
        x = Checks.town("corner r 1 9;corner a 9 2;corner b 9 2;corner c 9 2;river r 0;street r c 1;street r b 1;street r a 1;pipe 1 1;");
        x.lay(1, 2, 0, 2, 2);
        x.lay(2, 1, 0, 2, 2);
        x.lay(3, 0, 0, 2, 2);
        due("the river's area costs nothing", x.stages(0), 12);
        due("of several orders the first", x.stages(1) * 100 + x.stages(2) * 10 + x.stages(3), 123);
    }

    private static void first() {
        RiverDrains x = laidTown();
        due("9 times 2", x.first(0), 0);
        due("9 * 2", x.first(1), 18);
        due("what 2", x.first(2), -1);
        due("what -1", x.first(-1), -1);
        x.take(0);
        due("2 * 4", x.first(0), 2);
        due("of the area", x.first(1), 8);
        x = Checks.town(TOWN);
        due("nothing is laid", x.first(0), -1);
        due("no risk", x.first(1), -1);
        x.lay(0, 3, 0, 2, 2);
        x.lay(1, 3, 0, 2, 2);
        x.lay(2, 1, 0, 2, 2);
        due("of a ring the first", x.first(0), 0);
        due("each corner once", x.first(1), 6);
    }

    private static void undo() {
        RiverDrains x = laidTown();
        x.take(1);
        due("four to undo", x.count(8), 4);
        due("undo", x.undo(), 3);
        due("b is back", x.net(1, 2), 3);
        due("undo once more", x.undo(), 2);
        due("c is gone", x.net(2, 0), -2);
        x.lay(0, 0, 2, 4, 4);
        due("undo a change", x.undo(), 2);
        due("what was ahead", x.net(0, 3), 3);
        x.undo();
        due("the last one", x.undo(), 0);
        due("none", x.undo(), -1);
        for (int i = 0; i < 25; i++) {
            x.lay(0, 0, 0, i % 13, 0);
        }
        due("twenty at most", x.count(8), 20);
        for (int i = 19; i >= 0; i--) {
            due("undo to " + i, x.undo(), i);
        }
        due("the fifth stays", x.net(0, 2), 4);
        due("no more", x.undo(), -1);
        x = Checks.town("corner a 20 1;corner b 10 1;river b 0;street a b 2;pipe 1 0;");
        x.lay(0, 0, 0, 7, 7);
        due("a net is laid", x.laid(1), true);
        due("and undone", x.undo(), 1);
        due("as it was", x.net(0, 2), 7);
    }

    private static void image() {
        RiverDrains x = laidTown();
        due("no image", x.back(), -1);
        due("keep", x.keep(), 3);
        due("undo stays", x.count(8), 3);
        x.take(0);
        x.lay(1, 1, 0, 8, 8);
        due("back", x.back(), 3);
        due("a is there", x.net(0, 0), 0);
        due("b as it was", x.net(1, 2), 3);
        due("nothing to undo", x.count(8), 0);
        x.take(2);
        due("keep another", x.keep(), 2);
        x.take(1);
        due("back to that", x.back(), 2);
        due("again", x.back(), 2);
    }

    private static void count() {
        RiverDrains x = laidTown();
        int[] due = {4, 4, 3, 2, 5, 3, 3, 15, 3};
        for (int what = 0; what < due.length; what++) {
            due("count " + what, x.count(what), due[what]);
        }
        due("what 9", x.count(9), -1);
        due("what -1", x.count(-1), -1);
    }
}
