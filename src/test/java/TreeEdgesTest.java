/** Promises 23 to 26: the CHEAPEST NET of a TREE, the TREE of all, and what a STREET left out costs. */
public final class TreeEdgesTest {
    private static final int[] BEYOND = {Integer.MIN_VALUE, Integer.MIN_VALUE + 1, -1000, -2, -1, 1000, 65536, Integer.MAX_VALUE};
    /** A square with one STREET across: a, b, c and the river r. */
    private static final String SQUARE = "corner a 40 1;corner b 40 1;corner c 40 1;corner r 40 1;river r 0;"
        + "street a b 1;street b c 2;street c r 3;street r a 4;street a c 5;pipe 2 1;falls 0 9;cover 1 1;";
    /** One PIPE from a to the river r. */
    private static final String ONE = "corner a 30 1;corner r 20 1;river r 10;street a r 5;pipe 2 1;pipe 5 3;";
    /** A row: a, b, the river r, all at one height. */
    private static final String ROW = "corner a 20 1;corner b 20 1;corner r 20 0;river r 0;street a b 1;street b r 1;";

    private TreeEdgesTest() { }

    public static void main(String[] args) {
        Edges.run(TreeEdgesTest.class, 23, 24, 25, 26);
    }

    /** The one PIPE of the CHEAPEST NET of ONE: its width, a and b as digits; 0 if none is lawful. */
    private static int onlyPipe(String town) {
        RiverDrains x = Checks.town(town);
        return x.laid(1) ? (x.net(0, 1) + 1) * 10000 + x.net(0, 2) * 100 + x.net(0, 3) : 0;
    }

    /** COST and NET of a TREE agree: the NET that is laid is lawful and costs so much. */
    private static void agrees(Checks c, RiverDrains x, int streets, long cost) {
        c.due("cheapest " + streets, x.cheapest(streets), cost);
        c.due("laid " + streets, x.laid(streets), true);
        c.due("lawful " + streets, x.judged(0), 0);
        c.due("cost of " + streets, x.all(), cost);
        for (int corner = 0; corner < x.count(0); corner++) {
            c.due("in these streets", x.net(corner, 0) < 0 || (streets >> x.net(corner, 0) & 1) == 1, true);
        }
    }

    // "they join all CORNERS .. without a ring"
    static void promise23_trees(Checks c) {
        RiverDrains x = Checks.town(SQUARE);
        agrees(c, x, 0b00111, 2 * (1 + 2 + 3));
        agrees(c, x, 0b01011, 2 * (1 + 2 + 4));
        agrees(c, x, 0b01110, 2 * (2 + 3 + 4));
        agrees(c, x, 0b01101, 2 * (1 + 3 + 4));
        agrees(c, x, 0b10101, 2 * (1 + 3 + 5));
        agrees(c, x, 0b11010, 2 * (2 + 4 + 5));
    }

    // "NONE: they are no TREE": a ring of all
    static void promise23_aRing(Checks c) {
        RiverDrains x = Checks.town(SQUARE);
        c.due("the square", x.cheapest(0b01111), -1);
        c.due("all", x.cheapest(0b11111), -1);
        c.due("one too many", x.cheapest(0b11101), -1);
    }

    // "NONE: they are no TREE": a ring of some beside others, as many as a TREE has
    static void promise23_aRingApart(Checks c) {
        RiverDrains x = Checks.town(SQUARE);
        c.due("a ring without r", x.cheapest(0b10011), -1);
        c.due("a ring without b", x.cheapest(0b11100), -1);
    }

    // "NONE: they are no TREE": not all CORNERS are joined
    static void promise23_notAllJoined(Checks c) {
        RiverDrains x = Checks.town(SQUARE);
        c.due("none", x.cheapest(0), -1);
        c.due("one", x.cheapest(0b00001), -1);
        c.due("two in a row", x.cheapest(0b00011), -1);
        c.due("two apart", x.cheapest(0b00101), -1);
    }

    // "NONE: .. no such ones"
    static void promise23_noSuchStreets(Checks c) {
        RiverDrains x = Checks.town(SQUARE);
        c.due("a tree and a sixth", x.cheapest(0b100111), -1);
        c.due("a sixth alone", x.cheapest(0b100000), -1);
        c.due("the highest bit with a tree", x.cheapest(Integer.MIN_VALUE | 0b00111), -1);
        for (int streets : BEYOND) {
            c.due("streets " + streets, x.cheapest(streets), -1);
        }
        x = Checks.town("corner a 1 1;river a 0;");
        c.due("of no streets one", x.cheapest(1), -1);
        c.due("of no streets an eleventh", x.cheapest(1024), -1);
    }

    // All ten STREETS are such ones.
    static void promise23_tenStreets(Checks c) {
        RiverDrains x = Checks.town("corner a 9 0;corner b 9 0;corner d 9 0;corner e 9 0;corner r 9 0;river r 0;street a b 1;street a d 1;"
            + "street a e 1;street b d 1;street b e 1;street d e 1;street r a 1;street r b 1;street r d 1;street r e 2;pipe 1 1;falls 0 0;");
        agrees(c, x, 0b1111000000, (1 + 2) * (1 + 1 + 1 + 2));
        agrees(c, x, 0b1000000111, (1 + 2) * (2 + 1 + 1 + 1));
        c.due("an eleventh", x.cheapest(0b11111000000), -1);
    }

    // "one at least": without CORNERS there is no TREE
    static void promise23_noCorners(Checks c) {
        c.due("nothing told", new RiverDrains().cheapest(0), -1);
        c.due("pipes only", Checks.town("pipe 1 1;").cheapest(0), -1);
    }

    // "one at least": one CORNER is joined by no STREET
    static void promise23_oneCorner(Checks c) {
        c.due("the river's", Checks.town("corner a 1 1;river a 9;").cheapest(0), 0);
        c.due("without a river", Checks.town("corner a 1 1;").cheapest(0), -2);
    }

    // "-2: no lawful NET": without a river, nothing is lawful
    static void promise23_noRiver(Checks c) {
        RiverDrains x = Checks.town(SQUARE.replace("river r 0;", ""));
        c.due("a tree", x.cheapest(0b00111), -2);
        c.due("no tree", x.cheapest(0b01111), -1);
        c.due("not laid", x.laid(0b00111), false);
    }

    // "-2: no lawful NET": without PIPES by width
    static void promise23_noPipes(Checks c) {
        c.due("a tree", Checks.town(SQUARE.replace("pipe 2 1;", "")).cheapest(0b00111), -2);
        c.due("no tree", Checks.town(SQUARE.replace("pipe 2 1;", "")).cheapest(0b00011), -1);
    }

    // LAW 1 of the CHEAPEST: cover's least and most are taken, none beyond
    static void promise23_law1(Checks c) {
        c.due("the least", onlyPipe(ONE), 10202);
        c.due("cover 0 0", onlyPipe(ONE + "cover 0 0;"), 10000);
        c.due("cover 12 12", onlyPipe(ONE.replace("river r 10", "river r 8") + "cover 12 12;"), 11212);
        c.due("cheaper if deeper", onlyPipe(ONE + "law dig 99-deep;"), 10808);
        c.due("deepest of all", onlyPipe(ONE.replace("river r 10", "river r 0") + "law dig 99-deep;cover 0 12;"), 11212);
    }

    // LAWS 2 and 3 of the CHEAPEST: FALL at its least and most
    static void promise23_law2And3(Checks c) {
        c.due("10 is just 5 times 2", onlyPipe(ONE + "falls 2 2;"), 10202);
        c.due("11 is 1 times 11: b", onlyPipe(ONE.replace("a r 5", "a r 1") + "falls 11 11;"), 10203);
        c.due("9 is 1 times 9: a", onlyPipe(ONE.replace("a r 5", "a r 1") + "falls 9 9;"), 10302);
        c.due("16 is the most", onlyPipe(ONE.replace("a r 5", "a r 1") + "falls 16 16;"), 10208);
        c.due("17 is too much", onlyPipe(ONE.replace("a r 5", "a r 1") + "falls 17 17;"), 0);
        c.due("4 is the least", onlyPipe(ONE.replace("a r 5", "a r 1") + "falls 4 4;"), 10802);
        c.due("3 is too little", onlyPipe(ONE.replace("a r 5", "a r 1") + "falls 3 3;"), 0);
        c.due("none at all", onlyPipe(ONE.replace("a 30", "a 20") + "falls 0 0;"), 10202);
        c.due("up the hill", onlyPipe(ONE.replace("a 30", "a 10")), 0);
        c.due("up the hill by 6", onlyPipe(ONE.replace("a 30", "a 14") + "falls 0 9;"), 10208);
        c.due("up the hill by 7", onlyPipe(ONE.replace("a 30", "a 13") + "falls 0 9;"), 0);
    }

    // LAW 4 of the CHEAPEST: no narrower PIPE behind a wider one
    static void promise23_law4(Checks c) {
        RiverDrains x = Checks.town(ROW + "pipe 2 1;pipe 5 3;falls 0 0;cover 1 1;law carry (wide=5)*9+(wide=2)*1;rain z 1;");
        agrees(c, x, 3, (1 + 1) + (3 + 1));
        c.due("narrow at a", x.net(0, 1), 0);
        c.due("wide at b", x.net(1, 1), 1);
        x = Checks.town(ROW.replace("r 20 0", "r 19 0") + "pipe 2 1;pipe 5 3;falls 0 9;cover 1 1;law carry (fall=1)*9+(wide=5)*9;rain z 1;");
        c.due("b alone could be narrow, but a has to be wide", x.cheapest(3), (3 + 1) + (3 + 1));
        agrees(c, x, 3, 8);
    }

    // LAW 5 of the CHEAPEST: without a law pump no PIPE comes deeper than the next begins
    static void promise23_law5(Checks c) {
        String town = ROW + "pipe 2 1;falls 1 1;law dig deep*10;";
        agrees(c, Checks.town(town + "cover 1 3;"), 3, (1 + 10) + (1 + 20));
        c.due("a comes at 2, b would have to go to 3", Checks.town(town + "cover 1 2;").cheapest(3), -2);
        agrees(c, Checks.town(town + "cover 1 2;law pump lift*7;"), 3, (1 + 10) + (1 + 10) + 7);
    }

    // LAW 5 of the CHEAPEST: by a PUMP, if it is cheaper
    static void promise23_byAPump(Checks c) {
        String town = ROW.replace("r 20 0", "r 19 0") + "pipe 2 0;cover 0 4;falls 1 9;law dig deep*100;";
        RiverDrains x = Checks.town(town);
        // a falls from 0 to 1, b has to begin at 1: 0 and 100 for 1 and 1.
        agrees(c, x, 3, 0 + 100);
        x = Checks.town(town + "law pump lift*99;");
        agrees(c, x, 3, 99);
        c.due("b begins at 0", x.net(1, 2), 0);
        c.due("the pump", x.cost(1, 1), 99);
        x = Checks.town(town + "law pump lift*101;");
        agrees(c, x, 3, 100);
        c.due("b begins at 1", x.net(1, 2), 1);
        x = Checks.town(town + "law pump 0;");
        agrees(c, x, 3, 0);
    }

    // The LIFT of a PUMP is that of the deepest of several, be it the first, the last or one between.
    static void promise23_byAPumpOfSeveral(Checks c) {
        // Each PIPE has to fall by 5: 27 comes at 4 if it begins at 1, 28 at 3, 30 at 1.
        int[][] heights = {{27, 30, 28}, {28, 27, 30}, {30, 28, 27}, {28, 30, 27}};
        for (int[] height : heights) {
            RiverDrains x = Checks.town("corner a " + height[0] + " 1;corner b " + height[1] + " 1;corner d " + height[2] + " 1;corner c 25 1 rock 0;"
                + "corner r 20 0;river r 0;street a c 1;street b c 1;street d c 1;street c r 1;pipe 2 1;falls 5 5;cover 1 4;rain z 1;"
                + "law dig rocky*10;law pump lift*7+flow;");
            agrees(c, x, 15, 3 + (1 + 10) + (3 * 7 + 4));
            for (int corner = 0; corner < 3; corner++) {
                c.due("a of " + height[corner], x.net(corner, 2), 1);
                c.due("b of " + height[corner], x.net(corner, 3), height[corner] == 27 ? 4 : height[corner] == 28 ? 3 : 1);
            }
            c.due("a of c", x.net(3, 2), 1);
        }
    }

    // A FALL of 99 for each LENGTH, the most that falls can say
    static void promise23_theGreatestFall(Checks c) {
        c.due("99 on 1", onlyPipe(ONE.replace("a 30", "a 119").replace("a r 5", "a r 1") + "falls 99 99;law carry fall=99;rain z 1;"), 10202);
        c.due("990 on 10", onlyPipe(ONE.replace("a 30", "a 999").replace("r 20", "r 9").replace("r 10", "r 0").replace("a r 5", "a r 10")
            + "falls 99 99;law carry fall=99;rain z 1;"), 10202);
    }

    // LAW 6 of the CHEAPEST: as much as it carries is enough
    static void promise23_law6(Checks c) {
        String town = ONE.replace("pipe 5 3", "pipe 5 2");
        c.due("4 on 4: the narrow one", onlyPipe(town + "rain z 4;"), 10202);
        c.due("5 on 4: the wide one", onlyPipe(town + "rain z 5;"), 20202);
        c.due("10 on 10", onlyPipe(town + "rain z 10;"), 20202);
        c.due("11 on 15: it falls more", onlyPipe(town + "rain z 11;"), 20207);
        c.due("16 on 15: none", onlyPipe(town + "rain z 16;"), 0);
        c.due("any hour of any rain", onlyPipe(town + "rain z 4;rain y 1 1 1 1 1 5;"), 20202);
    }

    // LAW 8 of the CHEAPEST: at the level or higher
    static void promise23_law8(Checks c) {
        c.due("at the level", onlyPipe(ONE.replace("river r 10", "river r 18")), 10202);
        c.due("above it", onlyPipe(ONE.replace("river r 10", "river r 19")), 0);
        c.due("13 lies at 7", onlyPipe(ONE.replace("river r 10", "river r 13") + "rain z 11;"), 20207);
        c.due("14 lies above", onlyPipe(ONE.replace("river r 10", "river r 14") + "rain z 11;"), 0);
    }

    // An ERROR of dig is no LAW: it costs 9999 for each LENGTH.
    static void promise23_errors(Checks c) {
        agrees(c, Checks.town(ONE + "law dig 1/0;"), 1, 5 * (1 + 9999));
        c.due("another depth", Checks.town(ONE + "law dig 1/(deep-2);").cheapest(1), 5 * (1 + 0));
        c.due("carry", Checks.town(ONE + "law carry 1/0;").cheapest(1), 5 * (1 + 2));
        c.due("carry with rain", Checks.town(ONE + "law carry 1/0;rain z 1;").cheapest(1), -2);
    }

    // COSTS beyond an int add up.
    static void promise23_theGreatestCost(Checks c) {
        RiverDrains x = Checks.town(ROW.replace("a b 1", "a b 99").replace("b r 1", "b r 99") + "pipe 1 99;falls 0 9;law dig 1000*1000*1000*1000;");
        agrees(c, x, 3, 2 * 99L * (99 + 1_000_000_000_000L));
    }

    // What is laid doesn't matter, and nothing is laid.
    static void promise23_nothingIsLaid(Checks c) {
        RiverDrains x = Checks.town(ONE);
        x.lay(0, 0, 1, 5, 5);
        c.due("cheapest", x.cheapest(1), 15);
        c.due("as it was", x.net(0, 2), 5);
        c.due("undoable", x.count(8), 1);
    }

    // "A CHEAPEST NET is LAID: true": "in place of what is"
    static void promise24_inPlaceOfWhatIs(Checks c) {
        RiverDrains x = Checks.town(SQUARE);
        x.lay(0, 0, 0, 5, 5);
        x.lay(1, 0, 0, 5, 5);
        c.due("laid", x.laid(0b01110), true);
        int[] due = {3, 1, 2};
        for (int corner = 0; corner < 3; corner++) {
            c.due("street of " + corner, x.net(corner, 0), due[corner]);
            c.due("a of " + corner, x.net(corner, 2), 1);
            c.due("b of " + corner, x.net(corner, 3), 1);
        }
        c.due("none of the river's", x.net(3, 0), -2);
        c.due("laid", x.count(5), 3);
        c.due("one change more", x.count(8), 3);
    }

    // "(each PIPE towards the river)"
    static void promise24_towardsTheRiver(Checks c) {
        RiverDrains x = Checks.town(SQUARE);
        x.laid(0b00111);
        c.due("a to b", x.net(0, 4), 1);
        c.due("b to c", x.net(1, 4), 2);
        c.due("c to r", x.net(2, 4), 3);
        x.laid(0b01011);
        c.due("a to r", x.net(0, 4), 3);
        c.due("b to a", x.net(1, 4), 0);
        c.due("c to b", x.net(2, 4), 1);
    }

    // "false, and nothing is: there is none"
    static void promise24_thereIsNone(Checks c) {
        RiverDrains x = Checks.town(SQUARE);
        x.lay(0, 0, 0, 5, 5);
        for (int streets : new int[] {0, 0b00011, 0b01111, 0b10011, 0b100111, -1, Integer.MIN_VALUE, Integer.MAX_VALUE}) {
            c.due("streets " + streets, x.laid(streets), false);
        }
        c.due("as it was", x.net(0, 2), 5);
        c.due("laid", x.count(5), 1);
        c.due("undoable", x.count(8), 1);
        x = Checks.town(SQUARE.replace("river r 0", "river r 99"));
        x.lay(0, 0, 0, 5, 5);
        c.due("a tree without a lawful net", x.laid(0b00111), false);
        c.due("as it was", x.net(0, 3), 5);
        c.due("undoable", x.count(8), 1);
        c.due("nothing told", new RiverDrains().laid(0), false);
    }

    // A NET without PIPES is LAID, too.
    static void promise24_withoutPipes(Checks c) {
        RiverDrains x = Checks.town("corner a 1 1;river a 9;");
        c.due("laid", x.laid(0), true);
        c.due("no pipes", x.count(5), 0);
        c.due("undoable", x.count(8), 1);
        c.due("undo", x.undo(), 0);
    }

    // "of several .. the narrowest PIPE"
    static void promise24_theNarrowest(Checks c) {
        c.due("all cost the same", onlyPipe(ONE.replace("pipe 2 1;pipe 5 3;", "pipe 2 1;pipe 5 1;")), 10202);
        c.due("25 as well as 25", onlyPipe(ONE + "rain z 5;"), 10207);
        c.due("the narrowest ahead of a and b", onlyPipe(ONE.replace("pipe 2 1;pipe 5 3;", "pipe 2 1;pipe 5 1;")
            + "law dig 5;law carry (wide=5)*99+fall*6;rain z 18;"), 10207);
    }

    // "then a, then b": the least
    static void promise24_thenAThenB(Checks c) {
        c.due("all cost the same", onlyPipe(ONE + "law dig 5;cover 1 9;"), 10101);
        c.due("b may be deep, if a is not", onlyPipe(ONE + "law dig 5;cover 1 9;falls 3 3;"), 10106);
        c.due("a has to be deep", onlyPipe(ONE + "law dig 5;cover 1 9;falls 1 1;"), 10601);
    }

    private static void laidAs(Checks c, String town, int[]... due) {
        RiverDrains x = Checks.town(town);
        c.due("laid", x.laid(3), true);
        for (int corner = 0; corner < 2; corner++) {
            for (int what = 1; what < 4; what++) {
                c.due("net " + corner + ", " + what, x.net(corner, what), due[corner][what - 1]);
            }
        }
    }

    // "by CORNERS": each has the narrowest, the least a and b, if nothing else is asked
    static void promise24_eachTheLeast(Checks c) {
        laidAs(c, ROW + "pipe 2 1;pipe 5 1;falls 0 9;cover 1 3;law dig 5;rain z 1;law carry wide;", new int[] {0, 1, 1}, new int[] {0, 1, 1});
    }

    // "the first CORNER first": a is narrow, as it falls to 2, though b is wide and deep then
    static void promise24_theFirstCornerFirst(Checks c) {
        laidAs(c, ROW + "pipe 2 1;pipe 5 1;falls 0 9;cover 1 2;law dig 5;rain z 1;law carry (fall=1)*9+(wide=5)*9;",
            new int[] {0, 1, 2}, new int[] {1, 2, 2});
    }

    // "the first CORNER first": where it lies below the second, it is wide anyway, and the least deep
    static void promise24_theFirstCornerBelow(Checks c) {
        laidAs(c, ROW.replace("street b r 1", "street a r 1").replace("street a b 1", "street b a 1")
            + "pipe 2 1;pipe 5 1;falls 0 9;cover 1 2;law dig 5;rain z 1;law carry (fall=1)*9+(wide=5)*9;",
            new int[] {1, 1, 1}, new int[] {1, 1, 1});
    }

    // "the first CORNER first", be the river's the first of all or not
    static void promise24_theRiverFirst(Checks c) {
        String town = "corner a 20 1;corner b 20 1;street a b 1;street b r 1;pipe 2 1;pipe 5 1;falls 0 9;cover 1 2;law dig 5;rain z 1;"
            + "law carry (fall=1)*9+(wide=5)*9;river r 0;";
        RiverDrains x = Checks.town("corner r 20 0;" + town);
        x.laid(3);
        int[][] due = {{0, 1, 2}, {1, 2, 2}};
        for (int what = 1; what < 4; what++) {
            c.due("net 1, " + what, x.net(1, what), due[0][what - 1]);
            c.due("net 2, " + what, x.net(2, what), due[1][what - 1]);
        }
    }

    // Seven CORNERS, the river's at each end and between: each PIPE as it has to be
    static void promise24_sevenCorners(Checks c) {
        String[] corners = {"corner a 25 1;", "corner b 24 5;", "corner c 23 1;", "corner d 26 5;", "corner e 27 1;", "corner f 28 5;"};
        int[][] due = {{0, 1, 1}, {1, 1, 2}, {0, 1, 3}, {1, 2, 1}, {0, 3, 1}, {1, 4, 1}};
        for (int river = 0; river < 7; river++) {
            StringBuilder text = new StringBuilder();
            for (int i = 0; i < 7; i++) {
                text.append(i == river ? "corner r 20 0;" : corners[i < river ? i : i - 1]);
            }
            RiverDrains x = Checks.town(text + "river r 0;street a r 1;street b r 1;street c r 1;street d r 1;street e r 1;street f r 1;"
                + "pipe 2 1;pipe 5 1;falls 5 5;cover 1 4;law dig 5;rain z 1;law carry wide;");
            agrees(c, x, 63, 6 * (1 + 5));
            for (int i = 0; i < 6; i++) {
                int corner = i < river ? i : i + 1;
                for (int what = 1; what < 4; what++) {
                    c.due("river " + river + ": net " + corner + ", " + what, x.net(corner, what), due[i][what - 1]);
                }
            }
        }
    }

    // Seven CORNERS in one row: the first one alone may be narrow
    static void promise24_sevenInARow(Checks c) {
        RiverDrains x = Checks.town("corner a 20 1;corner b 20 1;corner d 20 1;corner e 20 1;corner f 20 1;corner g 20 1;corner r 20 0;river r 0;"
            + "street a b 1;street b d 1;street d e 1;street e f 1;street f g 1;street g r 1;pipe 2 1;pipe 5 1;falls 0 9;cover 1 2;law dig 5;rain z 1;"
            + "law carry (fall=1)*9+(wide=5)*9;");
        agrees(c, x, 63, 6 * (1 + 5));
        for (int corner = 0; corner < 6; corner++) {
            c.due("width of " + corner, x.net(corner, 1), corner == 0 ? 0 : 1);
            c.due("a of " + corner, x.net(corner, 2), corner == 0 ? 1 : 2);
            c.due("b of " + corner, x.net(corner, 3), 2);
        }
    }

    // Seven CORNERS in one row, each PIPE too deep for the next: five PUMPS
    static void promise24_sevenByPumps(Checks c) {
        for (String row : new String[] {"abdefg", "gfedba", "dgabfe"}) {
            StringBuilder text = new StringBuilder("corner a 20 1;corner b 20 1;corner d 20 1;corner e 20 1;corner f 20 1;corner g 20 1;corner r 20 0;"
                + "river r 0;pipe 2 1;falls 1 1;cover 1 2;law dig 5;law pump lift*7;");
            for (int i = 0; i < 6; i++) {
                text.append("street ").append(row.charAt(i)).append(' ').append((row + "r").charAt(i + 1)).append(" 1;");
            }
            RiverDrains x = Checks.town(text.toString());
            agrees(c, x, 63, 6 * (1 + 5) + 5 * 7);
            for (int corner = 0; corner < 6; corner++) {
                c.due("a of " + corner, x.net(corner, 2), 1);
                c.due("b of " + corner, x.net(corner, 3), 2);
            }
        }
    }

    // A TREE that was asked of ahead of others is LAID as it is.
    static void promise24_askedOfAheadOfOthers(Checks c) {
        RiverDrains x = Checks.town(SQUARE);
        x.cheapest(0b00111);
        x.cheapest(0b01011);
        x.tree(0);
        agrees(c, x, 0b00111, 12);
        c.due("a to b", x.net(0, 4), 1);
        c.due("b to c", x.net(1, 4), 2);
    }

    // All answers are those of the NET that is LAID.
    static void promise24_answersOfTheNet(Checks c) {
        RiverDrains x = Checks.town(SQUARE + "rain z 1;law carry 9;");
        x.laid(0b00111);
        c.due("flow of c", x.flow(2, 0, 0), 3);
        x.laid(0b01011);
        c.due("flow of c", x.flow(2, 0, 0), 1);
        c.due("flow of a", x.flow(0, 0, 0), 3);
        c.due("worst of b", x.worst(1, 0), 2);
    }

    // Of a PUMP and of none at the same COST: what counts is the order of NETS alone.
    static void promise24_aPumpOrNone(Checks c) {
        String town = ROW + "pipe 2 1;falls 1 1;cover 1 3;law dig 5;";
        laidAs(c, town, new int[] {0, 1, 2}, new int[] {0, 2, 3});
        laidAs(c, town + "law pump 0;", new int[] {0, 1, 2}, new int[] {0, 1, 2});
    }

    // "TREE, what 0: COST, 1: STREETS (bits)"
    static void promise25_theLeastCost(Checks c) {
        RiverDrains x = Checks.town(SQUARE);
        c.due("cost", x.tree(0), 2 * (1 + 2 + 3));
        c.due("streets", x.tree(1), 0b00111);
        x = Checks.town(SQUARE.replace("c r 3", "c r 9"));
        c.due("cost", x.tree(0), 2 * (1 + 2 + 4));
        c.due("streets", x.tree(1), 0b01011);
    }

    // "of several the least bits"
    static void promise25_theLeastBits(Checks c) {
        String alike = SQUARE.replace("t b c 2", "t b c 1").replace("t c r 3", "t c r 1").replace("t r a 4", "t r a 1").replace("t a c 5", "t a c 1");
        RiverDrains x = Checks.town(alike);
        c.due("cost", x.tree(0), 6);
        c.due("streets", x.tree(1), 0b00111);
        x = Checks.town(alike.replace("t a b 1", "t a b 9"));
        c.due("cost", x.tree(0), 6);
        c.due("streets", x.tree(1), 0b01110);
    }

    // A TREE of STREETS that costs nothing is no -2.
    static void promise25_noCost(Checks c) {
        RiverDrains x = Checks.town(SQUARE.replace("pipe 2 1;", "pipe 2 0;law dig 0;"));
        c.due("cost", x.tree(0), 0);
        c.due("streets", x.tree(1), 0b00111);
        c.due("cheapest", x.cheapest(0b00111), 0);
        c.due("laid", x.laid(0b00111), true);
    }

    // "2: how many sets are TREES": of the latest TEXT, however often it is asked
    static void promise25_howManyTreesThen(Checks c) {
        RiverDrains x = Checks.town(SQUARE);
        c.due("a square with one across", x.tree(2), 8);
        c.due("once more", x.tree(2), 8);
        Checks.tell(x, SQUARE);
        c.due("the same text", x.tree(2), 8);
        Checks.tell(x, ONE);
        c.due("another text", x.tree(2), 1);
        Checks.tell(x, "cart 1;");
        c.due("no corners", x.tree(2), 0);
    }

    // "2: how many sets are TREES": lawful or not
    static void promise25_howManyTrees(Checks c) {
        c.due("a square with one across", Checks.town(SQUARE).tree(2), 8);
        c.due("without a river", Checks.town(SQUARE.replace("river r 0;", "")).tree(2), 8);
        c.due("without pipes", Checks.town(SQUARE.replace("pipe 2 1;", "")).tree(2), 8);
        c.due("one corner", Checks.town("corner a 1 1;").tree(2), 1);
        c.due("no corner", new RiverDrains().tree(2), 0);
        c.due("two apart", Checks.town("corner a 1 1;corner b 1 1;").tree(2), 0);
        c.due("two joined", Checks.town("corner a 1 1;corner b 1 1;street a b 1;").tree(2), 1);
        c.due("five, each joined to each", Checks.town("corner a 9 0;corner b 9 0;corner d 9 0;corner e 9 0;corner r 9 0;river r 0;street a b 1;"
            + "street a d 1;street a e 1;street b d 1;street b e 1;street d e 1;street r a 1;street r b 1;street r d 1;street r e 2;").tree(2), 125);
    }

    // "-2: none has a lawful NET (0, 1)"
    static void promise25_noneIsLawful(Checks c) {
        for (String town : new String[] {SQUARE.replace("river r 0;", ""), SQUARE.replace("pipe 2 1;", ""),
            SQUARE.replace("river r 0", "river r 40"), "corner a 1 1;", "corner a 1 1;corner b 1 1;river a 0;"}) {
            RiverDrains x = Checks.town(town);
            c.due("cost of " + town, x.tree(0), -2);
            c.due("streets of " + town, x.tree(1), -2);
        }
    }

    // Some TREES are lawful, others are not.
    static void promise25_someAreLawful(Checks c) {
        RiverDrains x = Checks.town(SQUARE.replace("corner b 40", "corner b 41"));
        c.due("none can run to b", x.cheapest(0b00111), -2);
        c.due("b to c, c to r, a to r", x.tree(0), 2 * (1 + 3 + 4));
        c.due("streets", x.tree(1), 0b01101);
    }

    // One CORNER: the TREE without STREETS costs nothing, and that is no -2.
    static void promise25_oneCorner(Checks c) {
        RiverDrains x = Checks.town("corner a 1 1;river a 9;");
        c.due("cost", x.tree(0), 0);
        c.due("streets", x.tree(1), 0);
        c.due("trees", x.tree(2), 1);
    }

    // "NONE for another what"
    static void promise25_anotherWhat(Checks c) {
        RiverDrains x = Checks.town(SQUARE);
        c.due("what 3", x.tree(3), -1);
        for (int what : BEYOND) {
            c.due("what " + what, x.tree(what), -1);
        }
    }

    // "WITHOUT two STREETS (both the same: one): how much more the least COST is than with all"
    static void promise26_howMuchMore(Checks c) {
        RiverDrains x = Checks.town(SQUARE);
        c.due("one of the tree", x.without(2, 2), 2 * (4 - 3));
        c.due("the first one", x.without(0, 0), 2 * (4 - 1));
        c.due("two of the tree", x.without(0, 2), 2 * (2 + 4 + 5) - 12);
        c.due("turned", x.without(2, 0), 2 * (2 + 4 + 5) - 12);
        c.due("one of it and another", x.without(2, 4), 2 * (4 - 3));
    }

    // Others than those of the TREE aren't missed.
    static void promise26_nothingMore(Checks c) {
        RiverDrains x = Checks.town(SQUARE);
        c.due("the last one", x.without(4, 4), 0);
        c.due("two others", x.without(3, 4), 0);
    }

    // Nothing more than nothing: that is no -2, and no NONE.
    static void promise26_noCost(Checks c) {
        RiverDrains x = Checks.town(SQUARE.replace("pipe 2 1;", "pipe 2 0;law dig 0;"));
        c.due("another one costs nothing, too", x.without(0, 0), 0);
        c.due("both of r", x.without(2, 3), -2);
    }

    // "-2: there is none"
    static void promise26_thereIsNone(Checks c) {
        RiverDrains x = Checks.town(SQUARE);
        c.due("both of r", x.without(2, 3), -2);
        c.due("both of b", x.without(0, 1), -2);
        c.due("the only street", Checks.town(ONE).without(0, 0), -2);
    }

    // "-2: there is none": TREES are left, but no lawful NET in them
    static void promise26_noLawfulOne(Checks c) {
        RiverDrains x = Checks.town(SQUARE.replace("corner a 40", "corner a 46").replace("corner b 40", "corner b 45")
            .replace("corner c 40", "corner c 43").replace("street r a 4", "street r a 7").replace("falls 0 9", "falls 1 9"));
        c.due("with all", x.tree(0), 12);
        c.due("a would have to fall by 7", x.cheapest(0b01011), -2);
        c.due("without c r", x.without(2, 2), -2);
    }

    // "NONE: no such ones"
    static void promise26_noSuchStreets(Checks c) {
        RiverDrains x = Checks.town(SQUARE);
        c.due("street 5", x.without(5, 5), -1);
        c.due("street 5 as the other", x.without(0, 5), -1);
        c.due("street 5 as the one", x.without(5, 0), -1);
        for (int street : BEYOND) {
            c.due("one " + street, x.without(street, 0), -1);
            c.due("other " + street, x.without(0, street), -1);
        }
        c.due("without streets", Checks.town("corner a 1 1;river a 9;").without(0, 0), -1);
    }

    // "NONE: .. none with all"
    static void promise26_noneWithAll(Checks c) {
        c.due("no river", Checks.town(SQUARE.replace("river r 0;", "")).without(0, 0), -1);
        c.due("no pipes", Checks.town(SQUARE.replace("pipe 2 1;", "")).without(0, 0), -1);
        c.due("the level", Checks.town(SQUARE.replace("river r 0", "river r 40")).without(4, 4), -1);
    }

    // The TREES are those of the latest TEXT.
    static void promise26_ofTheLatestText(Checks c) {
        RiverDrains x = Checks.town(SQUARE);
        c.due("cost", x.tree(0), 12);
        Checks.tell(x, SQUARE.replace("pipe 2 1", "pipe 2 0"));
        c.due("cheaper ones", x.tree(0), 6);
        c.due("without", x.without(2, 2), 1);
        c.due("cheapest", x.cheapest(0b00111), 6);
        Checks.tell(x, "cart 1;;");
        c.due("a text with a fault", x.tree(0), 6);
    }

    // The same where the STREETS are as they were, but what is dug, carried, pumped and falls is not
    static void promise26_ofTheLatestLaws(Checks c) {
        RiverDrains x = Checks.town(ONE);
        c.due("without laws", x.cheapest(1), 5 * (1 + 2));
        Checks.tell(x, ONE + "law dig deep*deep;");
        c.due("dig", x.cheapest(1), 5 * (1 + 4));
        Checks.tell(x, ONE + "law carry wide=5;rain z 1;");
        c.due("carry", x.cheapest(1), 5 * (3 + 2));
        Checks.tell(x, ONE.replace("corner a 30 1", "corner a 30 1 rock 0") + "law dig rocky*3;");
        c.due("rock", x.cheapest(1), 5 * (1 + 6));
        Checks.tell(x, ONE + "cover 4 4;");
        c.due("cover", x.cheapest(1), 5 * (1 + 4));
        Checks.tell(x, ONE + "falls 9 9;");
        c.due("falls", x.cheapest(1), -2);
        Checks.tell(x, ONE.replace("river r 10", "river r 19"));
        c.due("level", x.cheapest(1), -2);
        Checks.tell(x, ONE);
        c.due("as at first", x.cheapest(1), 5 * (1 + 2));
    }
}
