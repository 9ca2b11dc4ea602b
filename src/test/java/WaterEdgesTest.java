/** Promises 17 to 22: FLOWS, FLOODS, the WORST and what BURSTS. */
public final class WaterEdgesTest {
    private static final int[] BEYOND = {Integer.MIN_VALUE, Integer.MIN_VALUE + 1, -1000, -2, -1, 1000, 65536, Integer.MAX_VALUE};
    /** A row: a, b, c, the river r; the water takes 1, 3 and 2 hours. */
    private static final String ROW = "corner a 40 2;corner b 30 3;corner c 20 5;corner r 10 7;river r 1;"
        + "street a b 5 hours 1;street b c 5 hours 3;street c r 5 hours 2;pipe 9 0;";
    /** Seven CORNERS in a row, each STREET of three hours. */
    private static final String LONG_ROW = "corner a 70 99;corner b 60 99;corner c 50 99;corner d 40 99;corner e 30 99;corner f 20 99;"
        + "corner g 10 99;street a b 5 hours 3;street b c 5 hours 3;street c d 5 hours 3;street d e 5 hours 3;street e f 5 hours 3;"
        + "street f g 5 hours 3;pipe 1 0;";
    /** Three CORNERS in a ring, and d beside it. */
    private static final String RING = "corner a 9 2;corner b 9 3;corner c 9 5;corner d 9 7;corner e 9 1;street a b 1;street b c 1;street c a 1;"
        + "street d a 1;street d e 1;pipe 1 0;rain z 4 1;";

    private WaterEdgesTest() { }

    public static void main(String[] args) {
        Edges.run(WaterEdgesTest.class, 17, 18, 19, 20, 21, 22);
    }

    private static RiverDrains row(String more) {
        RiverDrains x = Checks.town(ROW + more);
        for (int corner = 0; corner < 3; corner++) {
            x.lay(corner, corner, 0, 2, 2);
        }
        return x;
    }

    private static RiverDrains ring() {
        RiverDrains x = Checks.town(RING);
        for (int corner = 0; corner < 4; corner++) {
            x.lay(corner, corner, 0, 2, 2);
        }
        return x;
    }

    /** One PIPE by a law carry, with one RAIN on an AREA of 1. */
    private static RiverDrains one(String carry, String rain) {
        RiverDrains x = Checks.town("corner a 40 1;corner b 30 0;street a b 5;pipe 9 0;law carry " + carry + ";rain z " + rain + ";");
        x.lay(0, 0, 0, 2, 2);
        return x;
    }

    private static void flows(Checks c, RiverDrains x, int corner, int rain, long... due) {
        for (int hour = 0; hour < 30; hour++) {
            c.due("flow " + corner + ", " + rain + ", " + hour, x.flow(corner, rain, hour), hour < due.length ? due[hour] : 0);
        }
    }

    // "AREA times the RAIN's number of that hour (0 behind) of its CORNER"
    static void promise17_ofItsCorner(Checks c) {
        flows(c, row("rain z 7;"), 0, 0, 14);
        flows(c, row("rain z 1 2 3 4 5 6;"), 0, 0, 2, 4, 6, 8, 10, 12);
        RiverDrains x = row("rain y 1 2 3;rain z 0 9;");
        flows(c, x, 0, 0, 2, 4, 6);
        flows(c, x, 0, 1, 0, 18);
    }

    // AREA 0, and a RAIN of 0
    static void promise17_nothingRuns(Checks c) {
        flows(c, row("rain z 0;"), 2, 0);
        RiverDrains x = Checks.town(ROW.replace("40 2", "40 0") + "rain z 99;");
        x.lay(0, 0, 0, 2, 2);
        flows(c, x, 0, 0);
    }

    // "and the FLOWS of all PIPES laid to this, as many hours ago as these take"
    static void promise17_hoursAgo(Checks c) {
        RiverDrains x = row("rain z 1 10;");
        flows(c, x, 0, 0, 2, 20);
        flows(c, x, 1, 0, 3, 30 + 2, 20);
        flows(c, x, 2, 0, 5, 50, 0, 3, 30 + 2, 20);
    }

    // Hours without: the water comes in the hour in which it falls.
    static void promise17_noHours(Checks c) {
        RiverDrains x = Checks.town(ROW.replace(" hours 1", "").replace(" hours 3", " hours 0") + "rain z 1 10;");
        for (int corner = 0; corner < 3; corner++) {
            x.lay(corner, corner, 0, 2, 2);
        }
        flows(c, x, 2, 0, 10, 100);
    }

    // "of all PIPES laid to this": several come to one
    static void promise17_severalPipes(Checks c) {
        RiverDrains x = Checks.town("corner c 9 1;corner a 9 2;corner b 9 3;corner d 9 5;corner r 9 7;street a c 1;street b c 1 hours 2;"
            + "street d c 1 hours 1;street c r 1;pipe 1 0;rain z 1;");
        x.lay(0, 3, 0, 2, 2);
        flows(c, x, 0, 0, 1);
        x.lay(1, 0, 0, 2, 2);
        flows(c, x, 0, 0, 3);
        x.lay(2, 1, 0, 2, 2);
        x.lay(3, 2, 0, 2, 2);
        flows(c, x, 0, 0, 3, 5, 3);
    }

    // Six PIPES of three hours and six hours of rain: all of it comes ahead of hour 29.
    static void promise17_theLongestWay(Checks c) {
        RiverDrains x = Checks.town(LONG_ROW + "rain z 99 99 99 99 99 99;");
        for (int corner = 0; corner < 6; corner++) {
            x.lay(corner, corner, 0, 2, 2);
        }
        long each = 99 * 99;
        long[] due = new long[21];
        for (int from = 0; from < 6; from++) {
            for (int hour = 0; hour < 6; hour++) {
                due[3 * from + hour] += each;
            }
        }
        flows(c, x, 5, 0, due);
        c.due("the last hour that has any", x.flow(5, 0, 20), each);
    }

    // "(whether all come to the river or not)"
    static void promise17_notToTheRiver(Checks c) {
        RiverDrains x = row("rain z 1 10;");
        x.take(2);
        flows(c, x, 1, 0, 3, 30 + 2, 20);
        x.take(0);
        flows(c, x, 1, 0, 3, 30);
        x = Checks.town(ROW.replace("river r 1;", "") + "rain z 1 10;");
        x.lay(0, 0, 0, 2, 2);
        flows(c, x, 0, 0, 2, 20);
        x.lay(3, 2, 0, 2, 2);
        flows(c, x, 3, 0, 7, 70);
    }

    // "of PIPES in a ring 0"
    static void promise17_inARing(Checks c) {
        RiverDrains x = ring();
        for (int corner = 0; corner < 3; corner++) {
            flows(c, x, corner, 0);
        }
        x.take(1);
        flows(c, x, 0, 0, 2 * 4 + 5 * 4 + 7 * 4, 2 + 5 + 7);
    }

    // What runs to a ring is in none.
    static void promise17_toARing(Checks c) {
        flows(c, ring(), 3, 0, 28, 7);
    }

    // A PIPE apart from a ring has its FLOW, too.
    static void promise17_besideARing(Checks c) {
        RiverDrains x = ring();
        x.lay(3, 4, 0, 2, 2);
        flows(c, x, 3, 0, 28, 7);
        flows(c, x, 0, 0);
        x.lay(4, 4, 0, 2, 2);
        flows(c, x, 3, 0);
        flows(c, x, 4, 0);
    }

    // What a PIPE carries doesn't matter for FLOWS.
    static void promise17_nothingIsFlooded(Checks c) {
        RiverDrains x = row("rain z 1 10;law carry 0;");
        flows(c, x, 2, 0, 5, 50, 0, 3, 30 + 2, 20);
    }

    // FLOWS follow each change: laid, taken up, undone, brought back.
    static void promise17_followsEachChange(Checks c) {
        RiverDrains x = row("rain z 1;");
        c.due("laid", x.flow(1, 0, 1), 2);
        x.take(0);
        c.due("taken up", x.flow(1, 0, 1), 0);
        x.undo();
        c.due("undone", x.flow(1, 0, 1), 2);
        x.keep();
        x.take(0);
        c.due("taken up again", x.flow(1, 0, 1), 0);
        x.back();
        c.due("brought back", x.flow(1, 0, 1), 2);
    }

    // The same of hours in which no rain falls any more: nothing of an earlier NET is left there.
    static void promise17_lateHoursFollow(Checks c) {
        RiverDrains x = Checks.town(LONG_ROW + "rain z 1;");
        for (int corner = 0; corner < 6; corner++) {
            x.lay(corner, corner, 0, 2, 2);
            x.worst(corner, 0);
        }
        long[] due = new long[16];
        for (int hour = 0; hour < 16; hour += 3) {
            due[hour] = 99;
        }
        flows(c, x, 5, 0, due);
        x.take(0);
        due[15] = 0;
        flows(c, x, 5, 0, due);
    }

    // "(hour 0 .. 29)"
    static void promise17_noSuchHour(Checks c) {
        RiverDrains x = row("rain z 1;");
        c.due("hour 0", x.flow(0, 0, 0), 2);
        c.due("hour 29", x.flow(0, 0, 29), 0);
        c.due("hour 30", x.flow(0, 0, 30), -1);
        for (int hour : BEYOND) {
            c.due("hour " + hour, x.flow(0, 0, hour), -1);
        }
    }

    // "NONE: none is laid"
    static void promise17_noneIsLaid(Checks c) {
        RiverDrains x = row("rain z 1;");
        c.due("the river's", x.flow(3, 0, 0), -1);
        x.take(1);
        c.due("taken up", x.flow(1, 0, 0), -1);
    }

    // "NONE: .. no such ones"
    static void promise17_noSuchOnes(Checks c) {
        RiverDrains x = row("rain z 1;rain y 1;rain x 1;rain w 1;");
        c.due("the fourth rain", x.flow(0, 3, 0), 2);
        c.due("a fifth", x.flow(0, 4, 0), -1);
        c.due("corner 4", x.flow(4, 0, 0), -1);
        for (int beyond : BEYOND) {
            c.due("corner " + beyond, x.flow(beyond, 0, 0), -1);
            c.due("rain " + beyond, x.flow(0, beyond, 0), -1);
        }
        c.due("without rains", row("").flow(0, 0, 0), -1);
    }

    // "no PIPE takes more than it CARRIES": as much as that is no flood
    static void promise18_asMuchAsItCarries(Checks c) {
        RiverDrains x = one("7", "6 7 8 9 0");
        long[] due = {0, 0, 1, 2, 0, 0};
        for (int hour = 0; hour < due.length; hour++) {
            c.due("flooded in " + hour, x.flooded(0, 0, hour), due[hour]);
        }
        c.due("in the last hour", x.flooded(0, 0, 29), 0);
    }

    // A PIPE that carries nothing floods all that runs to it.
    static void promise18_carriesNothing(Checks c) {
        c.due("law 0", one("0", "8").flooded(0, 0, 0), 8);
        c.due("an error", one("1/0", "8").flooded(0, 0, 0), 8);
        c.due("below 0", one("0-5", "8").flooded(0, 0, 0), 8);
        RiverDrains x = Checks.town("corner a 1 1;corner b 30 0;street a b 5;pipe 9 0;rain z 8;");
        x.lay(0, 0, 0, 2, 2);
        c.due("up the hill", x.flooded(0, 0, 0), 8);
    }

    // "what is more is FLOODED at its CORNER in that hour and gone": it doesn't come to the next one
    static void promise18_andGone(Checks c) {
        RiverDrains x = row("rain z 10;law carry 12;");
        c.due("20 at a", x.flooded(0, 0, 0), 8);
        c.due("30 at b", x.flooded(1, 0, 0), 18);
        c.due("12 come from a", x.flooded(1, 0, 1), 0);
        c.due("50 at c", x.flooded(2, 0, 0), 38);
        c.due("12 come from b", x.flooded(2, 0, 3), 0);
        c.due("12 come from a over b", x.flooded(2, 0, 4), 0);
        c.due("the flow itself is as ever", x.flow(2, 0, 4), 20);
        c.due("nothing waits", x.flooded(0, 0, 1), 0);
    }

    // "as FLOWS": what comes of several PIPES meets, and comes hours later
    static void promise18_asFlows(Checks c) {
        RiverDrains x = row("rain z 1 1;law carry 4;");
        c.due("3 and nothing", x.flooded(1, 0, 0), 0);
        c.due("3 and 2", x.flooded(1, 0, 1), 1);
        c.due("2", x.flooded(1, 0, 2), 0);
        c.due("5", x.flooded(2, 0, 0), 1);
        c.due("3", x.flooded(2, 0, 3), 0);
        c.due("4 of 5", x.flooded(2, 0, 4), 0);
    }

    // Of PIPES in a ring nothing flows, so nothing is FLOODED; what runs to the ring may be.
    static void promise18_inARing(Checks c) {
        RiverDrains x = ring();
        for (int corner = 0; corner < 3; corner++) {
            c.due("in the ring " + corner, x.flooded(corner, 0, 0), 0);
        }
        c.due("to the ring", x.flooded(3, 0, 0), 28);
    }

    // A PIPE that had floods has none when it comes into a ring.
    static void promise18_inARingThen(Checks c) {
        RiverDrains x = ring();
        x.take(2);
        c.due("no ring", x.flooded(1, 0, 0), 3 * 4);
        x.undo();
        c.due("a ring", x.flooded(1, 0, 0), 0);
        c.due("floods", x.floods(0), 28 + 7);
    }

    // "FLOODED at a CORNER with a PIPE .. NONE: no such ones"
    static void promise18_noSuchOnes(Checks c) {
        RiverDrains x = row("rain z 1;");
        c.due("the river's has no pipe", x.flooded(3, 0, 0), -1);
        c.due("corner 4", x.flooded(4, 0, 0), -1);
        c.due("rain 1", x.flooded(0, 1, 0), -1);
        c.due("hour 29", x.flooded(0, 0, 29), 0);
        c.due("hour 30", x.flooded(0, 0, 30), -1);
        for (int beyond : BEYOND) {
            c.due("corner " + beyond, x.flooded(beyond, 0, 0), -1);
            c.due("rain " + beyond, x.flooded(0, beyond, 0), -1);
            c.due("hour " + beyond, x.flooded(0, 0, beyond), -1);
        }
        x.take(0);
        c.due("taken up", x.flooded(0, 0, 0), -1);
    }

    // "All that is FLOODED at CORNERS in hours 0 .. 29 of a RAIN"
    static void promise19_allThatIsFlooded(Checks c) {
        RiverDrains x = row("rain z 10;rain y 1 1;law carry 12;");
        c.due("of the first", x.floods(0), 8 + 18 + 38);
        c.due("of the second", x.floods(1), 0);
        c.due("hours 0 and 5", one("1", "2 0 0 0 0 9").floods(0), 1 + 8);
        x = Checks.town(LONG_ROW + "rain z 0 0 0 0 0 1;law carry wide*99;");
        for (int corner = 0; corner < 6; corner++) {
            x.lay(corner, corner, 0, 2, 2);
        }
        c.due("nothing meets", x.floods(0), 0);
    }

    // "of a RAIN": floods of the one behind it are none of it, and the last RAIN has all its hours.
    static void promise19_ofOneRain(Checks c) {
        RiverDrains x = row("rain z 0 1;rain y 40;rain x 30 1;rain w 0 0 20;law carry 30;");
        c.due("the first", x.floods(0), 0);
        c.due("the second", x.floods(1), 50 + 90 + 170);
        c.due("the third", x.floods(2), 30 + 60 + 120 + 3);
        c.due("the fourth", x.floods(3), 10 + 30 + 70);
    }

    // The last hour in which there can be a flood is 20.
    static void promise19_theLastFlood(Checks c) {
        RiverDrains x = Checks.town(LONG_ROW.replace("f g 5", "f g 40") + "rain z 0 0 0 0 0 1;law carry fall*99;");
        for (int corner = 0; corner < 6; corner++) {
            x.lay(corner, corner, 0, 2, 2);
        }
        c.due("hour 20", x.flooded(5, 0, 20), 99);
        c.due("six floods", x.floods(0), 6 * 99);
    }

    // Nothing is laid: nothing is FLOODED at CORNERS with a PIPE.
    static void promise19_nothingLaid(Checks c) {
        RiverDrains x = Checks.town(ROW + "rain z 99;");
        c.due("nothing laid", x.floods(0), 0);
        x.lay(0, 0, 0, 8, 2);
        c.due("one pipe", x.floods(0), 198);
        x.take(0);
        c.due("taken up", x.floods(0), 0);
    }

    // "NONE: no such RAIN"
    static void promise19_noSuchRain(Checks c) {
        RiverDrains x = row("rain z 1;rain y 1;");
        c.due("the second", x.floods(1), 0);
        c.due("a third", x.floods(2), -1);
        for (int rain : BEYOND) {
            c.due("rain " + rain, x.floods(rain), -1);
        }
        c.due("without rains", row("").floods(0), -1);
    }

    // "its greatest FLOW": what 0 the FLOW, 1 the RAIN, 2 the hour
    static void promise20_theGreatest(Checks c) {
        RiverDrains x = row("rain z 1 1;rain y 1 9 2;");
        c.due("flow", x.worst(2, 0), 50 - 5);
        c.due("rain", x.worst(2, 1), 1);
        c.due("hour", x.worst(2, 2), 1);
        c.due("flow at b", x.worst(1, 0), 27 + 2);
        c.due("hour at b", x.worst(1, 2), 1);
    }

    // It is the FLOW as if nothing was flooded.
    static void promise20_nothingIsFlooded(Checks c) {
        RiverDrains x = row("rain z 0 10;law carry 1;");
        c.due("flow", x.worst(1, 0), 30);
        x = row("rain z 2 1;law carry 1;");
        c.due("with all of a", x.worst(1, 0), 3 + 4);
        c.due("hour", x.worst(1, 2), 1);
    }

    // "of several the first RAIN"
    static void promise20_theFirstRain(Checks c) {
        RiverDrains x = row("rain z 1 2;rain y 0 0 0 4;rain x 4;rain w 4 4;");
        c.due("flow", x.worst(0, 0), 8);
        c.due("rain y, though x is earlier", x.worst(0, 1), 1);
        c.due("hour", x.worst(0, 2), 3);
    }

    // "then the first hour"
    static void promise20_theFirstHour(Checks c) {
        RiverDrains x = row("rain z 1 4 4 3 4;");
        c.due("rain", x.worst(0, 1), 0);
        c.due("hour", x.worst(0, 2), 1);
    }

    // No water, and water of a ring: the FLOW is 0, first in hour 0 of the first RAIN.
    static void promise20_noFlow(Checks c) {
        RiverDrains x = row("rain z 0 0;rain y 0;");
        RiverDrains ring = ring();
        for (int what = 0; what < 3; what++) {
            c.due("no water " + what, x.worst(2, what), 0);
            c.due("a ring " + what, ring.worst(1, what), 0);
        }
    }

    // A FLOW that comes later than any rain falls
    static void promise20_lateHours(Checks c) {
        RiverDrains x = Checks.town(LONG_ROW.replace("b 60 99", "b 60 0").replace("c 50 99", "c 50 0").replace("d 40 99", "d 40 0")
            .replace("e 30 99", "e 30 0").replace("f 20 99", "f 20 0") + "rain z 1;rain y 0 0 0 0 1 2;");
        for (int corner = 0; corner < 6; corner++) {
            x.lay(corner, corner, 0, 2, 2);
        }
        c.due("flow", x.worst(5, 0), 198);
        c.due("rain", x.worst(5, 1), 1);
        c.due("hour", x.worst(5, 2), 20);
    }

    // "NONE: none is laid, no RAINS"
    static void promise20_noneIsLaid(Checks c) {
        RiverDrains x = row("rain z 1;");
        RiverDrains dry = row("");
        x.take(1);
        for (int what = 0; what < 3; what++) {
            c.due("taken up " + what, x.worst(1, what), -1);
            c.due("the river's " + what, x.worst(3, what), -1);
            c.due("no rains " + what, dry.worst(0, what), -1);
        }
    }

    // "NONE: .. no such ones"
    static void promise20_noSuchOnes(Checks c) {
        RiverDrains x = row("rain z 1;");
        c.due("what 3", x.worst(0, 3), -1);
        c.due("corner 4", x.worst(4, 0), -1);
        for (int beyond : BEYOND) {
            c.due("what " + beyond, x.worst(0, beyond), -1);
            c.due("corner " + beyond, x.worst(beyond, 0), -1);
        }
    }

    // "the least k .. with FLOW times k above CARRIES times 100": as much is not above
    static void promise21_above(Checks c) {
        c.due("10 on 10", one("10", "10").burst(0), 101);
        c.due("10 on 20", one("10", "20").burst(0), 51);
        c.due("10 on 3", one("10", "3").burst(0), 334);
        c.due("9 on 3", one("9", "3").burst(0), 301);
        c.due("20 on 10", one("20", "10").burst(0), 201);
    }

    // "the least k 1 .. 9999": 1 is the least
    static void promise21_theLeast(Checks c) {
        c.due("carries nothing", one("0", "1").burst(0), 1);
        c.due("carries 1 of 99", one("1", "99").burst(0), 2);
        RiverDrains x = Checks.town("corner a 40 99;corner b 30 0;street a b 5;pipe 9 0;law carry 1;rain z 99;");
        x.lay(0, 0, 0, 2, 2);
        c.due("1 of 9801", x.burst(0), 1);
    }

    // "(9999, if never)": 9999 is also the most that is told of others
    static void promise21_theMost(Checks c) {
        c.due("9800 on 99: 9899 times 99 is 980001", one("9800", "99").burst(0), 9899);
        c.due("9897 on 99: 9997 times 99 is 989703", one("9897", "99").burst(0), 9997);
        c.due("9898 on 99: 9998 times 99 is 989802", one("9898", "99").burst(0), 9998);
        c.due("9899 on 99: 9999 times 99 is 989901", one("9899", "99").burst(0), 9999);
        c.due("9900 on 99: never", one("9900", "99").burst(0), 9999);
        c.due("far more: never", one("1000*1000*1000*1000", "1").burst(0), 9999);
    }

    // "(9999, if never)": without water
    static void promise21_never(Checks c) {
        c.due("rain of 0", one("0", "0").burst(0), 9999);
        c.due("a ring", ring().burst(0), 9999);
        c.due("no rains", row("law carry 0;").burst(0), 9999);
    }

    // "its greatest FLOW": of all RAINS
    static void promise21_ofAllRains(Checks c) {
        RiverDrains x = row("rain z 1;rain y 0 0 5;rain x 2;law carry 10;");
        c.due("10 on 10", x.burst(0), 101);
    }

    // "NONE: none is laid, no such CORNER"
    static void promise21_noneIsLaid(Checks c) {
        RiverDrains x = row("rain z 1;");
        c.due("the river's", x.burst(3), -1);
        c.due("corner 4", x.burst(4), -1);
        for (int corner : BEYOND) {
            c.due("corner " + corner, x.burst(corner), -1);
        }
        x.take(0);
        c.due("taken up", x.burst(0), -1);
    }

    // "of the NET that PIPE with the least k"
    static void promise22_theLeast(Checks c) {
        RiverDrains x = row("rain z 10;law carry 12;");
        c.due("c has 50", x.bursts(), 2);
        x.take(2);
        c.due("b has 30", x.bursts(), 1);
        x.take(1);
        c.due("a has 20", x.bursts(), 0);
    }

    // ".. the first CORNER"
    static void promise22_theFirstCorner(Checks c) {
        RiverDrains x = Checks.town("corner r 9 0;corner a 20 4;corner b 20 4;corner d 20 4;street b r 1;street a r 1;street d r 1;pipe 1 0;rain z 1;"
            + "law carry 2;");
        x.lay(3, 2, 0, 2, 2);
        c.due("d alone", x.bursts(), 3);
        x.lay(2, 0, 0, 2, 2);
        c.due("b ahead of d", x.bursts(), 2);
        x.lay(1, 1, 0, 2, 2);
        c.due("a ahead of b", x.bursts(), 1);
    }

    // PIPES that never burst: the first of them is told, as all have 9999.
    static void promise22_never(Checks c) {
        RiverDrains x = row("law carry 1;");
        c.due("the first of three", x.bursts(), 0);
        x.take(0);
        c.due("the first of two", x.bursts(), 1);
        x = ring();
        c.due("one beside a ring bursts", x.bursts(), 3);
        x.take(3);
        c.due("the first of a ring", x.bursts(), 0);
    }

    // "NONE: nothing is laid"
    static void promise22_nothingLaid(Checks c) {
        RiverDrains x = Checks.town(ROW + "rain z 10;");
        c.due("nothing", x.bursts(), -1);
        x.lay(0, 0, 0, 2, 2);
        c.due("one", x.bursts(), 0);
        x.take(0);
        c.due("nothing again", x.bursts(), -1);
    }
}
