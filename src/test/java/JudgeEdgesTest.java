/** Promises 15 and 16: each LAW at its bounds, and which of several is told. */
public final class JudgeEdgesTest {
    private static final int[] BEYOND = {Integer.MIN_VALUE, Integer.MIN_VALUE + 1, -1000, -2, -1, 1000, 65536, Integer.MAX_VALUE};
    /** A row: a, b, the river r. By DEEP 2 and 2 each PIPE falls by 10 on a LENGTH of 5. */
    private static final String ROW = "corner a 40 1;corner b 30 1;corner r 20 0;river r 10;street a b 5;street b r 5;pipe 2 0;pipe 5 0;";
    /** a and b both run to c, that runs to the river r. */
    private static final String FORK = "corner a 40 1;corner b 40 1;corner c 30 1;corner r 20 0;river r 10;"
        + "street a c 5;street b c 5;street c r 5;pipe 2 0;pipe 5 0;pipe 9 0;";

    private JudgeEdgesTest() { }

    public static void main(String[] args) {
        Edges.run(JudgeEdgesTest.class, 15, 16);
    }

    /** The first LAW that one PIPE from a breaks. */
    private static int brokenBy(String town, int pipe, int a, int b) {
        RiverDrains x = Checks.town(town);
        x.lay(0, 0, pipe, a, b);
        return x.broken(0);
    }

    private static RiverDrains row(String more) {
        RiverDrains x = Checks.town(ROW + more);
        x.lay(0, 0, 0, 2, 2);
        x.lay(1, 1, 0, 2, 2);
        return x;
    }

    private static RiverDrains fork(String more) {
        RiverDrains x = Checks.town(FORK + more);
        x.lay(0, 0, 0, 2, 2);
        x.lay(1, 1, 0, 2, 2);
        x.lay(2, 2, 0, 2, 2);
        return x;
    }

    private static void judged(Checks c, String why, RiverDrains x, int law, int corner) {
        c.due(why + ", the law", x.judged(0), law);
        c.due(why + ", the corner", x.judged(1), corner);
    }

    // "1 a and b are DEEP as cover says": as told
    static void promise15_law1AsTold(Checks c) {
        String town = ROW + "cover 3 6;";
        c.due("both at least", brokenBy(town, 0, 3, 3), 0);
        c.due("both at most", brokenBy(town, 0, 6, 6), 0);
        c.due("a too high", brokenBy(town, 0, 2, 3), 1);
        c.due("b too high", brokenBy(town, 0, 3, 2), 1);
        c.due("a too deep", brokenBy(town, 0, 7, 6), 1);
        c.due("b too deep", brokenBy(town, 0, 6, 7), 1);
    }

    // "cover: .. (2, 8": without
    static void promise15_law1Without(Checks c) {
        c.due("both at least", brokenBy(ROW, 0, 2, 2), 0);
        c.due("both at most", brokenBy(ROW, 0, 8, 8), 0);
        c.due("a too high", brokenBy(ROW, 0, 1, 2), 1);
        c.due("b too high", brokenBy(ROW, 0, 2, 1), 1);
        c.due("a too deep", brokenBy(ROW, 0, 9, 8), 1);
        c.due("b too deep", brokenBy(ROW, 0, 8, 9), 1);
    }

    // Cover from 0 to 12, and of one DEEP alone
    static void promise15_law1Widest(Checks c) {
        c.due("0", brokenBy(ROW + "cover 0 12;", 0, 0, 0), 0);
        c.due("12", brokenBy(ROW + "cover 0 12;", 0, 12, 12), 0);
        c.due("0 alone", brokenBy(ROW + "cover 0 0;", 0, 0, 0), 0);
        c.due("1 of 0 alone", brokenBy(ROW + "cover 0 0;", 0, 0, 1), 1);
        c.due("12 alone", brokenBy(ROW + "cover 12 12;", 0, 12, 12), 0);
        c.due("11 of 12 alone", brokenBy(ROW + "cover 12 12;", 0, 11, 12), 1);
    }

    // "2 FALL is LENGTH times what falls says at least": without, 1
    static void promise15_law2Without(Checks c) {
        c.due("5 on 5", brokenBy(ROW, 0, 7, 2), 0);
        c.due("4 on 5", brokenBy(ROW, 0, 8, 2), 2);
    }

    // "2 FALL is LENGTH times what falls says at least": as told; it isn't cut
    static void promise15_law2AsTold(Checks c) {
        c.due("10 on 5 times 2", brokenBy(ROW + "falls 2 9;", 0, 2, 2), 0);
        c.due("9 on 5 times 2", brokenBy(ROW + "falls 2 9;", 0, 3, 2), 2);
        c.due("none on 5 times 0", brokenBy(ROW + "falls 0 9;cover 0 12;", 0, 12, 2), 0);
        c.due("-1 on 5 times 0", brokenBy(ROW + "falls 0 9;cover 0 12;", 0, 12, 1), 2);
        c.due("far below 0", brokenBy("corner a 0 1;corner b 999 1;street a b 99;pipe 1 1;falls 99 99;", 0, 2, 2), 2);
    }

    // "3 at most": without, 9
    static void promise15_law3Without(Checks c) {
        String town = "corner a 40 1;corner b 30 1;street a b 1;pipe 1 1;";
        c.due("9 on 1", brokenBy(town, 0, 3, 2), 0);
        c.due("10 on 1", brokenBy(town, 0, 2, 2), 3);
    }

    // "3 at most": as told
    static void promise15_law3AsTold(Checks c) {
        c.due("10 on 5 times 2", brokenBy(ROW + "falls 1 2;", 0, 2, 2), 0);
        c.due("11 on 5 times 2", brokenBy(ROW + "falls 1 2;", 0, 2, 3), 3);
        c.due("0 on 5 times 0", brokenBy(ROW + "falls 0 0;cover 0 12;", 0, 12, 2), 0);
        c.due("1 on 5 times 0", brokenBy(ROW + "falls 0 0;cover 0 12;", 0, 12, 3), 3);
        c.due("999 on 99 times 99", brokenBy("corner a 999 1;corner b 0 1;street a b 99;pipe 1 1;falls 0 99;", 0, 2, 2), 0);
    }

    // "4 no PIPE laid to its CORNER is wider"
    static void promise15_law4(Checks c) {
        RiverDrains x = fork("");
        c.due("as wide", x.broken(2), 0);
        x.lay(1, 1, 1, 2, 2);
        c.due("one is wider", x.broken(2), 4);
        c.due("of that one nothing is broken", x.broken(1), 0);
        x.lay(2, 2, 1, 2, 2);
        c.due("as wide again", x.broken(2), 0);
        x.lay(2, 2, 2, 2, 2);
        c.due("narrower ones come", x.broken(2), 0);
        x.lay(0, 0, 2, 2, 2);
        x.lay(2, 2, 1, 2, 2);
        c.due("the first is wider", x.broken(2), 4);
        x.take(0);
        c.due("it is taken up", x.broken(2), 0);
    }

    // "5 none comes to its CORNER deeper than a, but by a PUMP (allowed, if a law pump is told)": not told
    static void promise15_law5WithoutALaw(Checks c) {
        RiverDrains x = fork("");
        c.due("as deep", x.broken(2), 0);
        x.lay(1, 1, 0, 2, 3);
        c.due("one is deeper", x.broken(2), 5);
        x.lay(2, 2, 0, 3, 3);
        c.due("as deep again", x.broken(2), 0);
        x.lay(2, 2, 0, 4, 3);
        c.due("none is deeper", x.broken(2), 0);
    }

    // "(allowed, if a law pump is told)": whatever it says
    static void promise15_law5WithALaw(Checks c) {
        for (String law : new String[] {"0", "lift", "1/0"}) {
            RiverDrains x = fork("law pump " + law + ";");
            x.lay(1, 1, 0, 2, 8);
            c.due("law pump " + law, x.broken(2), 0);
        }
        RiverDrains x = fork("law dig 1;law carry 99;");
        x.lay(1, 1, 0, 2, 3);
        c.due("other laws", x.broken(2), 5);
    }

    // "6 it CARRIES what runs to it": as much is no more
    static void promise15_law6(Checks c) {
        c.due("4 carried, 3 run", brokenBy(ROW + "rain z 3;", 0, 2, 2), 0);
        c.due("4 carried, 4 run", brokenBy(ROW + "rain z 4;", 0, 2, 2), 0);
        c.due("4 carried, 5 run", brokenBy(ROW + "rain z 5;", 0, 2, 2), 6);
    }

    // "at every hour of every RAIN"
    static void promise15_law6EveryHour(Checks c) {
        c.due("the sixth hour", brokenBy(ROW + "rain z 0 0 0 0 0 5;", 0, 2, 2), 6);
        c.due("the fourth rain", brokenBy(ROW + "rain w 1;rain x 2;rain y 3;rain z 0 5;", 0, 2, 2), 6);
        c.due("hours of two rains don't add up", brokenBy(ROW + "rain w 4;rain x 4;rain y 4 4 4;", 0, 2, 2), 0);
        RiverDrains x = Checks.town(ROW.replace("street a b 5;", "street a b 5 hours 3;") + "rain z 0 0 0 2 0 3;");
        x.lay(0, 0, 0, 2, 2);
        x.lay(1, 1, 0, 2, 2);
        c.due("what runs to it comes later", x.broken(1), 0);
        x = Checks.town(ROW.replace("street a b 5;", "street a b 5 hours 2;") + "rain z 0 0 0 3 0 2;");
        x.lay(0, 0, 0, 2, 2);
        x.lay(1, 1, 0, 2, 2);
        c.due("and meets what falls there", x.broken(1), 6);
    }

    // Without RAINS each PIPE carries what runs to it: nothing.
    static void promise15_law6WithoutRains(Checks c) {
        c.due("carries 0", brokenBy(ROW + "law carry 0;", 0, 2, 2), 0);
        c.due("carries 0, rain of 0", brokenBy(ROW + "law carry 0;rain z 0;", 0, 2, 2), 0);
        c.due("carries 0, rain of 1", brokenBy(ROW + "law carry 0;rain z 1;", 0, 2, 2), 6);
    }

    // "(by FLOWS as if nothing was ever flooded)"
    static void promise15_law6NothingIsFlooded(Checks c) {
        RiverDrains x = Checks.town(ROW + "law carry 5*wide;rain z 20;");
        x.lay(0, 0, 0, 2, 2);
        x.lay(1, 1, 1, 2, 2);
        c.due("a floods", x.broken(0), 6);
        c.due("b is flooded by 15 only", x.flooded(1, 0, 0), 5);
        c.due("b", x.broken(1), 6);
        x = Checks.town(ROW + "law carry (wide=2)*10+(wide=5)*35;rain z 20;");
        x.lay(0, 0, 0, 2, 2);
        x.lay(1, 1, 1, 2, 2);
        c.due("30 would come, 40 run", x.broken(1), 6);
        c.due("none of it floods", x.flooded(1, 0, 0), 0);
    }

    // PIPES in a ring have no FLOW, so they carry it; a and b are looked at all the same.
    static void promise15_inARing(Checks c) {
        RiverDrains x = Checks.town("corner a 40 9;corner b 40 9;street a b 5;pipe 2 0;falls 0 9;rain z 99;");
        x.lay(0, 0, 0, 2, 2);
        x.lay(1, 0, 0, 2, 2);
        c.due("a", x.broken(0), 0);
        x.lay(1, 0, 0, 2, 3);
        c.due("b comes deeper", x.broken(0), 5);
    }

    // "The first LAW of a PIPE laid that is broken": in their order
    static void promise15_theFirstOfSeveral(Checks c) {
        RiverDrains x = fork("rain z 99;falls 1 2;");
        x.lay(0, 0, 1, 2, 8);
        x.lay(2, 2, 0, 1, 12);
        c.due("1 ahead of 3, 4, 5, 6", x.broken(2), 1);
        x.lay(2, 2, 0, 2, 8);
        c.due("3 ahead of 4, 5, 6", x.broken(2), 3);
        x.lay(2, 2, 0, 2, 2);
        c.due("4 ahead of 5, 6", x.broken(2), 4);
        x.lay(2, 2, 1, 2, 2);
        c.due("5 ahead of 6", x.broken(2), 5);
        x.lay(2, 2, 1, 8, 8);
        c.due("6", x.broken(2), 6);
        x.lay(2, 2, 0, 8, 2);
        c.due("2 ahead of 4, 6", x.broken(2), 2);
        x.lay(2, 2, 0, 9, 2);
        c.due("1 ahead of 2, 4, 6", x.broken(2), 1);
    }

    // "-2: none is laid"
    static void promise15_noneIsLaid(Checks c) {
        RiverDrains x = Checks.town(ROW);
        c.due("a", x.broken(0), -2);
        c.due("the river's", x.broken(2), -2);
    }

    // "NONE: no such CORNER"
    static void promise15_noSuchCorner(Checks c) {
        RiverDrains x = row("");
        c.due("corner 3", x.broken(3), -1);
        for (int corner : BEYOND) {
            c.due("corner " + corner, x.broken(corner), -1);
        }
    }

    // A PIPE that runs to no river is judged as others are.
    static void promise15_withoutARiver(Checks c) {
        c.due("lawful", brokenBy(ROW.replace("river r 10;", ""), 0, 2, 2), 0);
        c.due("too flat", brokenBy(ROW.replace("river r 10;", ""), 0, 8, 2), 2);
    }

    // "(0: lawful)", "of .. 0: NONE"
    static void promise16_lawful(Checks c) {
        judged(c, "a row", row(""), 0, -1);
        judged(c, "a fork", fork(""), 0, -1);
    }

    // "7 there is a river": "(none: nothing is lawful)"
    static void promise16_law7NoRiver(Checks c) {
        judged(c, "nothing told", new RiverDrains(), 7, -1);
        judged(c, "one corner", Checks.town("corner a 1 1;"), 7, -1);
        RiverDrains x = Checks.town(ROW.replace("river r 10;", ""));
        x.lay(0, 0, 0, 2, 2);
        x.lay(1, 1, 0, 2, 2);
        judged(c, "all but the last have a pipe", x, 7, -1);
        x.lay(2, 1, 0, 2, 2);
        judged(c, "all have one", x, 7, -1);
    }

    // A river's CORNER alone: no PIPE is missing.
    static void promise16_law7OneCorner(Checks c) {
        judged(c, "one corner", Checks.town("corner a 1 1;river a 1;"), 0, -1);
        judged(c, "below its level", Checks.town("corner a 1 1;river a 999;"), 0, -1);
        judged(c, "another corner", Checks.town("corner a 1 1;corner b 1 1;river a 1;"), 7, -1);
    }

    // "each other CORNER has a PIPE"
    static void promise16_law7EachOtherCorner(Checks c) {
        RiverDrains x = fork("");
        for (int corner = 0; corner < 3; corner++) {
            x.take(corner);
            judged(c, "without " + corner, x, 7, -1);
            x.undo();
            judged(c, "with " + corner, x, 0, -1);
        }
        judged(c, "without any", Checks.town(FORK), 7, -1);
    }

    // "and all come to it (no rings)"
    static void promise16_law7Rings(Checks c) {
        RiverDrains x = row("");
        x.lay(1, 0, 0, 2, 2);
        judged(c, "a ring of two", x, 7, -1);
        x = Checks.town("corner a 9 1;corner b 9 1;corner c 9 1;corner r 5 1;river r 0;street a b 1;street b c 1;street c a 1;street c r 1;"
            + "pipe 1 0;falls 0 9;");
        x.lay(0, 0, 0, 2, 2);
        x.lay(1, 1, 0, 2, 2);
        x.lay(2, 2, 0, 2, 2);
        judged(c, "a ring of three", x, 7, -1);
        x.lay(2, 3, 0, 2, 2);
        judged(c, "no ring", x, 0, -1);
    }

    // The longest way to the river: six PIPES, from the first CORNER to the last and back.
    static void promise16_law7TheLongestWay(Checks c) {
        String down = "corner a 70 1;corner b 60 1;corner c 50 1;corner d 40 1;corner e 30 1;corner f 20 1;corner g 10 1;"
            + "street a b 5;street b c 5;street c d 5;street d e 5;street e f 5;street f g 5;pipe 1 0;falls 0 9;";
        RiverDrains x = Checks.town(down + "river g 0;");
        for (int corner = 0; corner < 6; corner++) {
            x.lay(corner, corner, 0, 2, 2);
        }
        judged(c, "down", x, 0, -1);
        x.take(3);
        judged(c, "one is missing", x, 7, -1);
        x = Checks.town(down.replace("corner a 70", "corner a 5").replace("corner b 60", "corner b 6").replace("corner c 50", "corner c 7")
            .replace("corner d 40", "corner d 8").replace("corner e 30", "corner e 9").replace("g 10", "g 50") + "river a 0;");
        for (int corner = 1; corner < 7; corner++) {
            x.lay(corner, corner - 1, 0, 2, 2);
        }
        judged(c, "up the numbers", x, 0, -1);
    }

    // "7 if it is, then the first CORNER's 1 .. 6"
    static void promise16_law7AheadOfOthers(Checks c) {
        RiverDrains x = row("");
        x.lay(0, 0, 0, 1, 1);
        judged(c, "law 1", x, 1, 0);
        x.take(1);
        judged(c, "law 7 and 1", x, 7, -1);
    }

    // "then the first CORNER's 1 .. 6": the first CORNER, not the first LAW
    static void promise16_theFirstCorners(Checks c) {
        RiverDrains x = row("rain z 4;");
        judged(c, "6 at b", x, 6, 1);
        x.lay(0, 0, 0, 8, 2);
        judged(c, "2 at a", x, 2, 0);
        x.lay(1, 1, 0, 1, 1);
        judged(c, "2 at a ahead of 1 at b", x, 2, 0);
        x.lay(0, 0, 0, 2, 2);
        judged(c, "1 at b", x, 1, 1);
    }

    // The river's CORNER may be the first one: it breaks no LAW.
    static void promise16_theRiverFirst(Checks c) {
        RiverDrains x = Checks.town("corner r 20 9;corner a 30 1;river r 10;street a r 5;pipe 2 0;rain z 4;");
        x.lay(1, 0, 0, 2, 2);
        judged(c, "lawful", x, 0, -1);
        x.lay(1, 0, 0, 1, 2);
        judged(c, "1 at a", x, 1, 1);
    }

    // "8 what comes to the river lies at the level or higher (HEIGHT less b)"
    static void promise16_law8(Checks c) {
        String town = ROW.replace("river r 10;", "river r 15;");
        RiverDrains x = Checks.town(town);
        x.lay(0, 0, 0, 2, 8);
        x.lay(1, 1, 0, 8, 5);
        judged(c, "at the level", x, 0, -1);
        x.lay(1, 1, 0, 8, 6);
        judged(c, "below it", x, 8, 1);
        x.lay(1, 1, 0, 8, 4);
        judged(c, "above it", x, 0, -1);
    }

    // "what comes to the river": PIPES to other CORNERS may lie lower
    static void promise16_law8ElsewhereLower(Checks c) {
        RiverDrains x = Checks.town("corner a 20 1;corner b 19 1;corner r 20 0;river r 18;street a b 1;street b r 1;pipe 2 0;falls 0 9;"
            + "cover 0 12;law pump 1;");
        x.lay(0, 0, 0, 1, 9);
        x.lay(1, 1, 0, 0, 2);
        judged(c, "10 at b, 18 at the river", x, 0, -1);
    }

    // "(of 8 the first"
    static void promise16_law8TheFirst(Checks c) {
        RiverDrains x = Checks.town("corner a 40 1;corner b 40 1;corner r 30 0;corner c 40 1;river r 27;street a r 5;street b r 5;street c r 5;pipe 2 0;");
        x.lay(0, 0, 0, 3, 3);
        x.lay(1, 1, 0, 3, 3);
        x.lay(3, 2, 0, 3, 3);
        judged(c, "all at the level", x, 0, -1);
        x.lay(3, 2, 0, 3, 4);
        judged(c, "the last one", x, 8, 3);
        x.lay(1, 1, 0, 3, 4);
        judged(c, "the second one", x, 8, 1);
        x.lay(0, 0, 0, 3, 4);
        judged(c, "the first one", x, 8, 0);
    }

    // "then 8": behind all of 1 .. 6
    static void promise16_law8BehindOthers(Checks c) {
        RiverDrains x = Checks.town(FORK.replace("river r 10;", "river r 20;"));
        x.lay(0, 0, 0, 2, 2);
        x.lay(1, 1, 0, 2, 2);
        x.lay(2, 2, 0, 2, 2);
        judged(c, "8 at c", x, 8, 2);
        x.lay(1, 1, 1, 2, 2);
        judged(c, "4 at c", x, 4, 2);
        x.lay(1, 1, 0, 8, 2);
        judged(c, "2 at b", x, 2, 1);
    }

    // A river whose level lies above all DEPTHS: nothing that comes is lawful.
    static void promise16_law8AboveTheCorner(Checks c) {
        RiverDrains x = Checks.town(ROW.replace("river r 10;", "river r 20;") + "cover 0 8;");
        x.lay(0, 0, 0, 2, 2);
        x.lay(1, 1, 0, 2, 0);
        judged(c, "at the corner's height", x, 0, -1);
        x = Checks.town(ROW.replace("river r 10;", "river r 21;") + "cover 0 8;");
        x.lay(0, 0, 0, 2, 2);
        x.lay(1, 1, 0, 2, 0);
        judged(c, "above it", x, 8, 1);
    }

    // "NONE for another what"
    static void promise16_anotherWhat(Checks c) {
        RiverDrains x = row("");
        x.lay(0, 0, 0, 1, 1);
        c.due("what 2", x.judged(2), -1);
        for (int what : BEYOND) {
            c.due("what " + what, x.judged(what), -1);
        }
    }
}
