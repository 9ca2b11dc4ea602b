/** Promises 9 to 14: PIPES laid and taken up, what they carry and cost, with the values of the laws. */
public final class PipeEdgesTest {
    private static final int[] BEYOND = {Integer.MIN_VALUE, Integer.MIN_VALUE + 1, -1000, -2, -1, 1000, 65536, Integer.MAX_VALUE};
    /** A row from a over b to the river r, and a street from a to r as well. */
    private static final String TOWN = "corner a 40 2;corner b 30 3;corner r 20 1;river r 10;"
        + "street a b 5;street r b 5;street a r 10;pipe 2 1;pipe 5 3;";

    private PipeEdgesTest() { }

    public static void main(String[] args) {
        Edges.run(PipeEdgesTest.class, 9, 10, 11, 12, 13, 14);
    }

    /** What a PIPE, 7 wide, with a fall of 6 carries by a law. */
    private static long carriedBy(String law) {
        RiverDrains x = Checks.town("corner a 30 1;corner b 10 1;street a b 3;pipe 7 0;law carry " + law + ";");
        x.lay(0, 0, 0, 2, 2);
        return x.carries(0);
    }

    private static void carried(Checks c, String law, long due) {
        c.due("carried by [" + law + "]", carriedBy(law), due);
    }

    /** What a PIPE of LENGTH 1 and COST 0 costs by a law dig, from a to b. */
    private static long dugBy(String law, String rock, int a, int b) {
        RiverDrains x = Checks.town("corner a 30 1" + rock + ";corner b 10 1 rock 1;street a b 1;pipe 7 0;law dig " + law + ";");
        x.lay(0, 0, 0, a, b);
        return x.cost(0, 0);
    }

    /** What the PUMP at b costs by a law, if water comes so deep to a PIPE of DEEP 2. */
    private static long pumpedBy(String law, int deep) {
        RiverDrains x = Checks.town("corner a 30 2;corner b 10 1;corner c 1 1;street a b 1;street b c 1;pipe 7 0;rain z 3 5;" + law);
        x.lay(0, 0, 0, 2, deep);
        x.lay(1, 1, 0, 2, 2);
        return x.cost(1, 1);
    }

    // "true"; "in a STREET from it to its other end": from both ends of the STREET, as long as it isn't the river's
    static void promise09_fromEachEnd(Checks c) {
        RiverDrains x = Checks.town(TOWN);
        c.due("a to b", x.lay(0, 0, 0, 2, 2), true);
        c.due("to b", x.net(0, 4), 1);
        c.due("b to a", x.lay(1, 0, 0, 2, 2), true);
        c.due("to a", x.net(1, 4), 0);
        c.due("b to r", x.lay(1, 1, 0, 2, 2), true);
        c.due("to r", x.net(1, 4), 2);
    }

    // "(in place of its one)"
    static void promise09_inPlaceOfItsOne(Checks c) {
        RiverDrains x = Checks.town(TOWN);
        x.lay(0, 0, 0, 2, 3);
        c.due("another one", x.lay(0, 2, 1, 4, 5), true);
        int[] due = {2, 1, 4, 5, 2};
        for (int what = 0; what < 5; what++) {
            c.due("net 0, " + what, x.net(0, what), due[what]);
        }
        c.due("one", x.count(5), 1);
        c.due("just the same once more", x.lay(0, 2, 1, 4, 5), true);
        c.due("can be undone, too", x.count(8), 3);
    }

    // "false: no such ones": no such CORNER
    static void promise09_noSuchCorner(Checks c) {
        RiverDrains x = Checks.town(TOWN);
        c.due("corner 3", x.lay(3, 0, 0, 2, 2), false);
        for (int corner : BEYOND) {
            c.due("corner " + corner, x.lay(corner, 0, 0, 2, 2), false);
        }
    }

    // "false: no such ones": no such STREET
    static void promise09_noSuchStreet(Checks c) {
        RiverDrains x = Checks.town(TOWN);
        c.due("street 3", x.lay(0, 3, 0, 2, 2), false);
        for (int street : BEYOND) {
            c.due("street " + street, x.lay(0, street, 0, 2, 2), false);
        }
    }

    // "in a STREET from it": one that doesn't touch the CORNER is none
    static void promise09_aStreetElsewhere(Checks c) {
        RiverDrains x = Checks.town(TOWN);
        c.due("b r from a", x.lay(0, 1, 0, 2, 2), false);
        c.due("a r from b", x.lay(1, 2, 0, 2, 2), false);
    }

    // "false: no such ones": no such width
    static void promise09_noSuchPipe(Checks c) {
        RiverDrains x = Checks.town(TOWN);
        c.due("the widest", x.lay(0, 0, 1, 2, 2), true);
        c.due("one more", x.lay(0, 0, 2, 2, 2), false);
        for (int pipe : BEYOND) {
            c.due("pipe " + pipe, x.lay(0, 0, pipe, 2, 2), false);
        }
        x = Checks.town("corner a 1 1;corner b 1 1;street a b 1;");
        c.due("without any", x.lay(0, 0, 0, 2, 2), false);
    }

    // "from DEEP a at its CORNER to DEEP b at the other one (0 .. 12)": whatever cover says
    static void promise09_depths(Checks c) {
        RiverDrains x = Checks.town(TOWN);
        c.due("a 0", x.lay(0, 0, 0, 0, 5), true);
        c.due("a 12", x.lay(0, 0, 0, 12, 5), true);
        c.due("a 13", x.lay(0, 0, 0, 13, 5), false);
        c.due("b 0", x.lay(0, 0, 0, 5, 0), true);
        c.due("b 12", x.lay(0, 0, 0, 5, 12), true);
        c.due("b 13", x.lay(0, 0, 0, 5, 13), false);
        for (int deep : BEYOND) {
            c.due("a " + deep, x.lay(0, 0, 0, deep, 5), false);
            c.due("b " + deep, x.lay(0, 0, 0, 5, deep), false);
        }
    }

    // "false .. it is the river's"
    static void promise09_theRivers(Checks c) {
        RiverDrains x = Checks.town(TOWN);
        c.due("r to b", x.lay(2, 1, 0, 2, 2), false);
        c.due("r to a", x.lay(2, 2, 0, 2, 2), false);
        x = Checks.town(TOWN.replace("river r 10;", "river a 10;"));
        c.due("another river: r to b", x.lay(2, 1, 0, 2, 2), true);
        c.due("another river: a to b", x.lay(0, 0, 0, 2, 2), false);
    }

    // Without a river each CORNER may have its PIPE.
    static void promise09_withoutARiver(Checks c) {
        RiverDrains x = Checks.town(TOWN.replace("river r 10;", ""));
        c.due("a", x.lay(0, 0, 0, 2, 2), true);
        c.due("b", x.lay(1, 0, 0, 2, 2), true);
        c.due("r", x.lay(2, 2, 0, 2, 2), true);
        c.due("laid", x.count(5), 3);
    }

    // A refused call lays nothing, takes nothing up, and leaves nothing to undo.
    static void promise09_refusedLeavesAll(Checks c) {
        RiverDrains x = Checks.town(TOWN);
        x.lay(0, 0, 1, 2, 3);
        x.lay(0, 1, 0, 4, 4);
        x.lay(0, 0, 0, 13, 4);
        x.lay(0, 0, 2, 4, 4);
        x.lay(2, 1, 0, 4, 4);
        int[] due = {0, 1, 2, 3, 1};
        for (int what = 0; what < 5; what++) {
            c.due("net 0, " + what, x.net(0, what), due[what]);
        }
        c.due("undoable", x.count(8), 1);
        c.due("laid", x.count(5), 1);
    }

    // "The PIPE of a CORNER is taken up: true"
    static void promise10_takenUp(Checks c) {
        RiverDrains x = Checks.town(TOWN);
        x.lay(0, 0, 0, 2, 2);
        x.lay(1, 1, 0, 2, 2);
        c.due("take", x.take(0), true);
        c.due("none there", x.net(0, 0), -2);
        c.due("the other one stays", x.net(1, 0), 1);
        c.due("laid", x.count(5), 1);
    }

    // "false: there is none"
    static void promise10_thereIsNone(Checks c) {
        RiverDrains x = Checks.town(TOWN);
        c.due("none yet", x.take(0), false);
        x.lay(0, 0, 0, 2, 2);
        x.take(0);
        c.due("no more", x.take(0), false);
        c.due("the river's", x.take(2), false);
        c.due("undoable", x.count(8), 2);
    }

    // "false: there is none": no such CORNER
    static void promise10_noSuchCorner(Checks c) {
        RiverDrains x = Checks.town(TOWN);
        c.due("corner 3", x.take(3), false);
        for (int corner : BEYOND) {
            c.due("corner " + corner, x.take(corner), false);
        }
        c.due("corner 7", x.take(7), false);
    }

    // "Its FALL: HEIGHT less a of the one, less HEIGHT and b of the other one", "5 FALL (below 0, too)"
    static void promise11_fall(Checks c) {
        RiverDrains x = Checks.town(TOWN);
        x.lay(0, 0, 0, 2, 2);
        c.due("as the ground", x.net(0, 5), 10);
        x.lay(0, 0, 0, 2, 5);
        c.due("deeper there", x.net(0, 5), 13);
        x.lay(0, 0, 0, 12, 2);
        c.due("none", x.net(0, 5), 0);
        x.lay(0, 0, 0, 12, 1);
        c.due("below 0: it is no NONE", x.net(0, 5), -1);
        x.lay(0, 0, 0, 12, 0);
        c.due("below 0: it is no -2", x.net(0, 5), -2);
        x = Checks.town("corner a 0 1;corner b 999 1;street a b 1;pipe 1 1;");
        x.lay(0, 0, 0, 12, 0);
        c.due("the least", x.net(0, 5), -1011);
        x.lay(1, 0, 0, 0, 12);
        c.due("the most", x.net(1, 5), 1011);
    }

    // "what 0 STREET, 1 width, 2 a, 3 b, 4 to which CORNER"
    static void promise11_ofAPipeLaid(Checks c) {
        RiverDrains x = Checks.town(TOWN);
        x.lay(1, 1, 1, 0, 12);
        int[] due = {1, 1, 0, 12, 2, 30 - (20 - 12)};
        for (int what = 0; what < 6; what++) {
            c.due("net 1, " + what, x.net(1, what), due[what]);
        }
    }

    // "-2: none is laid (but 5: Integer.MIN_VALUE)"
    static void promise11_noneIsLaid(Checks c) {
        RiverDrains x = Checks.town(TOWN);
        for (int corner = 0; corner < 3; corner++) {
            for (int what = 0; what < 5; what++) {
                c.due("net " + corner + ", " + what, x.net(corner, what), -2);
            }
            c.due("fall of " + corner, x.net(corner, 5), Integer.MIN_VALUE);
        }
    }

    // "NONE: no such ones"
    static void promise11_noSuchOnes(Checks c) {
        RiverDrains x = Checks.town(TOWN);
        x.lay(0, 0, 0, 2, 2);
        c.due("what 6", x.net(0, 6), -1);
        c.due("what 6, none laid", x.net(1, 6), -1);
        c.due("corner 3", x.net(3, 0), -1);
        c.due("corner 3, fall", x.net(3, 5), -1);
        for (int beyond : BEYOND) {
            c.due("what " + beyond, x.net(0, beyond), -1);
            c.due("corner " + beyond, x.net(beyond, 0), -1);
            c.due("fall of " + beyond, x.net(beyond, 5), -1);
        }
    }

    // "without such a law wide times fall), 0 at least"
    static void promise12_withoutALaw(Checks c) {
        RiverDrains x = Checks.town(TOWN);
        x.lay(0, 0, 1, 2, 2);
        c.due("5 * (10 / 5)", x.carries(0), 10);
        x.lay(0, 0, 1, 12, 2);
        c.due("no fall", x.carries(0), 0);
        x.lay(1, 0, 1, 2, 2);
        c.due("0 at least", x.carries(1), 0);
    }

    // "FALL by LENGTH, cut"
    static void promise12_fallByLengthCut(Checks c) {
        RiverDrains x = Checks.town(TOWN + "law carry fall;");
        x.lay(0, 0, 0, 3, 2);
        c.due("9 by 5", x.carries(0), 1);
        x.lay(0, 0, 0, 2, 2);
        c.due("10 by 5", x.carries(0), 2);
        x.lay(0, 0, 0, 8, 2);
        c.due("4 by 5", x.carries(0), 0);
    }

    // "FALL by LENGTH, cut": below 0, too, as / cuts towards 0
    static void promise12_fallBelowZeroCut(Checks c) {
        RiverDrains x = Checks.town(TOWN + "law carry 100+fall;");
        x.lay(0, 0, 0, 12, 1);
        c.due("-1 by 5", x.carries(0), 100);
        x.lay(1, 0, 0, 2, 2);
        c.due("-10 by 5", x.carries(1), 98);
        x.lay(1, 0, 0, 3, 2);
        c.due("-11 by 5", x.carries(1), 98);
    }

    // "carry's E by wide, fall", "Other NAMES are 0"
    static void promise12_namesOfCarry(Checks c) {
        carried(c, "wide", 7);
        carried(c, "fall", 6);
        carried(c, "5+deep", 5);
        carried(c, "5+rocky", 5);
        carried(c, "5+lift", 5);
        carried(c, "5+flow", 5);
        RiverDrains x = Checks.town("corner a 30 1 rock 0;corner b 10 1;corner c 50 1;street a b 3;street c a 1;pipe 7 0;"
            + "rain z 1;law carry 5+deep+rocky+lift+flow;law dig 5+fall+lift+flow;law pump 5+wide+fall+deep+rocky;");
        x.lay(0, 0, 0, 2, 2);
        x.lay(2, 1, 0, 2, 5);
        for (int i = 0; i < 2; i++) {
            c.due("none of dig and pump shines through", x.carries(0), 5);
            c.due("none of carry and pump", x.cost(0, 0), 3 * 5);
            c.due("none of carry and dig", x.cost(0, 1), 5);
            c.due("none of carry and pump again", x.cost(0, 0), 3 * 5);
        }
    }

    // "0 at least"
    static void promise12_zeroAtLeast(Checks c) {
        carried(c, "1-1", 0);
        carried(c, "1-2", 0);
        carried(c, "0-9999*9999", 0);
    }

    // "ERROR: CARRIES 0", "/ by 0"
    static void promise12_errorByZero(Checks c) {
        carried(c, "1/0", 0);
        carried(c, "0/0", 0);
        carried(c, "5+1/(2-2)", 0);
        carried(c, "5+0*(1/0)", 0);
        carried(c, "5+0/1", 5);
    }

    // "a value above 10 to the 12": that itself is none
    static void promise12_errorAbove(Checks c) {
        carried(c, "1000*1000*1000*1000", 1_000_000_000_000L);
        carried(c, "1000*1000*1000*1000+1", 0);
        carried(c, "1000*1000*1000*1000+1-1", 0);
        carried(c, "5+(1000*1000*1000*1000+1)*0", 0);
        carried(c, "1000*1000*1000*1000*1", 1_000_000_000_000L);
        carried(c, "1000*1000*1000*1000*2", 0);
        carried(c, "1000*1000*1000*1001", 0);
    }

    // "or below 0 by more than that"
    static void promise12_errorBelow(Checks c) {
        carried(c, "5+(0-1000*1000*1000*1000)*0", 5);
        carried(c, "5+(0-1000*1000*1000*1000-1)*0", 0);
        carried(c, "5+(0-1000*1000*1000)*1000*0", 5);
        carried(c, "5+(0-1000*1000*1000)*1001*0", 0);
        carried(c, "0-(0-1000*1000*1000*1000)", 1_000_000_000_000L);
        carried(c, "0-(0-1000*1000*1000*1000)+1", 0);
    }

    // "VALUES are longs": no product goes round on its way to an ERROR.
    static void promise12_errorFarAbove(Checks c) {
        String most = "1000*1000*1000*1000";
        carried(c, "5+" + most + "*(" + most + ")*0", 0);
        carried(c, "5+(0-" + most + ")*(" + most + ")*0", 0);
        carried(c, "5+(0-" + most + ")*(0-" + most + ")*0", 0);
        // 2 to the 32 by itself would go round to 0.
        carried(c, "5+4096*4096*256*(4096*4096*256)", 0);
        carried(c, "5+4096*4096*256*(0-4096*4096*256)", 0);
        // So would 2 to the 37 by 2 to the 27.
        carried(c, "5+4096*4096*8192*(4096*4096*8)", 0);
        carried(c, "5+4096*4096*8*(4096*4096*8192)", 0);
        carried(c, "9999*9999*9999", 999_700_029_999L);
    }

    // Values below 0, -1 among them, are values like others.
    static void promise12_belowZero(Checks c) {
        carried(c, "9+3*(0-1)", 6);
        carried(c, "9+(0-1)*3", 6);
        carried(c, "(0-3)*(0-1)", 3);
        carried(c, "9+0*(0-1)", 9);
        carried(c, "9+(0-1)*0", 9);
        carried(c, "9+3/(0-1)", 6);
        carried(c, "9-(0-1)", 10);
        carried(c, "9+(0-1)", 8);
    }

    // "/ is cut towards 0"
    static void promise12_dividingIsCutTowardsZero(Checks c) {
        carried(c, "7/2", 3);
        carried(c, "10+(0-7)/2", 7);
        carried(c, "10+7/(0-2)", 7);
        carried(c, "(0-7)/(0-2)", 3);
        carried(c, "10+(0-1)/2", 10);
    }

    // "T: P { ( * | / ) P }", "S: T { ( + | - ) T }": from left to right, * and / first
    static void promise12_fromLeftToRight(Checks c) {
        carried(c, "9-4-3", 2);
        carried(c, "9-(4-3)", 8);
        carried(c, "100/7/2", 7);
        carried(c, "100/(7/2)", 33);
        carried(c, "7/2*2", 6);
        carried(c, "2*7/4", 3);
        carried(c, "1+2*3", 7);
        carried(c, "(1+2)*3", 9);
        carried(c, "20-2*3-4/2", 12);
    }

    // "comparisons .. are 1 or 0": below, at and above
    static void promise12_comparisons(Checks c) {
        String[] signs = {"<", "<=", "=", "<>", ">=", ">"};
        int[][] due = {{1, 0, 0}, {1, 1, 0}, {0, 1, 0}, {1, 0, 1}, {0, 1, 1}, {0, 0, 1}};
        for (int i = 0; i < signs.length; i++) {
            for (int left = 4; left <= 6; left++) {
                carried(c, "3+(" + left + signs[i] + "5)", 3 + due[i][left - 4]);
            }
        }
        carried(c, "0-1<0", 1);
        carried(c, "2+3=5", 1);
        carried(c, "5=3+2", 1);
        carried(c, "(3<4)*9", 9);
    }

    // "and, or, not are 1 or 0 (what isn't 0 is as 1"
    static void promise12_andOrNot(Checks c) {
        carried(c, "5 and 7", 1);
        carried(c, "3+(5 and 0)", 3);
        carried(c, "3+(0 and 5)", 3);
        carried(c, "3+(0 and 0)", 3);
        carried(c, "5 or 0", 1);
        carried(c, "0 or 7", 1);
        carried(c, "3+(0 or 0)", 3);
        carried(c, "(0-5) or 0", 1);
        carried(c, "(0-5) and (0-1)", 1);
        carried(c, "not 0", 1);
        carried(c, "3+(not 7)", 3);
        carried(c, "3+(not (0-1))", 3);
        carried(c, "not not 7", 1);
        carried(c, "not not not 7", 0);
        carried(c, "2 and 4", 1);
    }

    // "E: A { or A }. A: B { and B }. B: not B | C": or binds least, then and, not, comparisons
    static void promise12_whatBindsCloser(Checks c) {
        carried(c, "1 or 0 and 0", 1);
        carried(c, "(1 or 0) and 0", 0);
        carried(c, "0 and 0 or 1", 1);
        carried(c, "not 0 and 0", 0);
        carried(c, "not (0 and 0)", 1);
        carried(c, "not 1 or 1", 1);
        carried(c, "not 1<0", 1);
        carried(c, "(not 1)<0", 0);
        carried(c, "not 0=0", 0);
        carried(c, "1 and 2<3", 1);
        carried(c, "1+1 and 0", 0);
        carried(c, "3<2+2", 1);
        carried(c, "not 0+1", 0);
    }

    // "both sides are worked out)"
    static void promise12_bothSidesAreWorkedOut(Checks c) {
        carried(c, "1 or 1/0", 0);
        carried(c, "5+(1 or 1/0)", 0);
        carried(c, "5+(0 and 1/0)", 0);
        carried(c, "5+(1/0 and 0)", 0);
        carried(c, "5+(not 1/0)", 0);
        carried(c, "5+(1/0=1/0)", 0);
    }

    // A law of 64 KNOTS, of 33 sides that wait, and of eight brackets is worked out as a short one.
    static void promise12_theLongestLaw(Checks c) {
        carried(c, "not not " + "1+".repeat(30) + "1", 1);
        carried(c, "1+".repeat(31) + "1", 32);
        carried(c, "not ".repeat(63) + "0", 1);
        carried(c, "1-(2-(3-(4-(5-(6-(7-(8-(9-1))))))))", 1 - 2 + 3 - 4 + 5 - 6 + 7 - 8 + 9 - 1);
        carried(c, "9 or 0 and not 1<2+3*(4 or 0 and not 1<2+3*(4 or 0 and not 1<2+3*(4 or 0 and not 1<2+3*4)))", 1);
    }

    // The longest laws of one TEXT after another are worked out each anew.
    static void promise12_theLongestLawAgain(Checks c) {
        RiverDrains x = new RiverDrains();
        for (int turn = 0; turn < 6; turn++) {
            Checks.tell(x, "corner a 30 1;corner b 10 1;street a b 3;pipe 7 0;law carry " + turn + "+1".repeat(31) + ";law dig 3;");
            x.lay(0, 0, 0, 2, 2);
            c.due("carries", x.carries(0), turn + 31);
            c.due("cost", x.cost(0, 0), 3 * 3);
        }
    }

    // "NONE: none is laid, no such CORNER"
    static void promise12_noneLaid(Checks c) {
        RiverDrains x = Checks.town(TOWN);
        x.lay(0, 0, 0, 2, 2);
        c.due("laid", x.carries(0), 4);
        c.due("none is laid", x.carries(1), -1);
        c.due("the river's", x.carries(2), -1);
        c.due("no such corner", x.carries(3), -1);
        for (int corner : BEYOND) {
            c.due("corner " + corner, x.carries(corner), -1);
        }
    }

    // "LENGTH times (COST of its width, and dig's E ..; without such a law deep)"
    static void promise13_withoutALaw(Checks c) {
        RiverDrains x = Checks.town(TOWN);
        x.lay(0, 2, 1, 4, 6);
        c.due("10 * (3 + 5)", x.cost(0, 0), 80);
        x.lay(0, 0, 0, 0, 0);
        c.due("5 * (1 + 0)", x.cost(0, 0), 5);
        x.lay(0, 0, 0, 12, 12);
        c.due("5 * (1 + 12)", x.cost(0, 0), 65);
    }

    // "deep (a and b by 2, cut)"
    static void promise13_deepIsCut(Checks c) {
        c.due("0 and 1", dugBy("deep", "", 0, 1), 0);
        c.due("2 and 3", dugBy("deep", "", 2, 3), 2);
        c.due("3 and 2", dugBy("deep", "", 3, 2), 2);
        c.due("12 and 11", dugBy("deep", "", 12, 11), 11);
        c.due("12 and 12", dugBy("deep", "", 12, 12), 12);
    }

    // "rocky (deep less the rock of its CORNER, 0 at least)": not that of the other end
    static void promise13_rocky(Checks c) {
        c.due("above the rock", dugBy("rocky", " rock 4", 2, 3), 0);
        c.due("at the rock", dugBy("rocky", " rock 4", 4, 4), 0);
        c.due("cut, at the rock", dugBy("rocky", " rock 4", 4, 5), 0);
        c.due("in the rock", dugBy("rocky", " rock 4", 5, 5), 1);
        c.due("rock from 0", dugBy("rocky", " rock 0", 12, 12), 12);
        c.due("without", dugBy("rocky", "", 12, 12), 0);
        c.due("so deep that it doesn't begin", dugBy("rocky+3", " rock 20", 12, 12), 3);
    }

    // "dig's E by wide, deep, rocky", "Other NAMES are 0"
    static void promise13_namesOfDig(Checks c) {
        c.due("wide", dugBy("wide", "", 2, 2), 7);
        c.due("all", dugBy("wide*100+deep*10+rocky", " rock 1", 3, 3), 732);
        c.due("others", dugBy("5+fall+lift+flow", "", 2, 2), 5);
    }

    // "Each of dig, pump 0 at least": dig
    static void promise13_digZeroAtLeast(Checks c) {
        c.due("0-1", dugBy("0-1", "", 2, 2), 0);
        RiverDrains x = Checks.town(TOWN + "law dig 0-5;");
        x.lay(0, 0, 1, 2, 2);
        c.due("it takes nothing off the width", x.cost(0, 0), 5 * 3);
    }

    // "ERROR: .. dig and pump 9999": dig, for each LENGTH
    static void promise13_digError(Checks c) {
        c.due("/ by 0", dugBy("1/0", "", 2, 2), 9999);
        c.due("above", dugBy("1000*1000*1000*1000+deep", "", 2, 2), 9999);
        c.due("no error", dugBy("1000*1000*1000*1000", "", 2, 2), 1_000_000_000_000L);
        RiverDrains x = Checks.town(TOWN + "law dig 1/(deep-2);");
        x.lay(0, 0, 1, 2, 2);
        c.due("5 * (3 + 9999)", x.cost(0, 0), 5 * (3 + 9999));
        x.lay(0, 0, 1, 2, 4);
        c.due("5 * (3 + 1)", x.cost(0, 0), 5 * (3 + 1));
    }

    // The greatest COST of all goes beyond an int.
    static void promise13_theGreatestCost(Checks c) {
        RiverDrains x = Checks.town("corner a 30 1;corner b 10 1;street a b 99;pipe 7 99;law dig 1000*1000*1000*1000;");
        x.lay(0, 0, 0, 2, 2);
        c.due("cost", x.cost(0, 0), 99L * (99 + 1_000_000_000_000L));
    }

    // "of its PUMP (if there is a LIFT)", "1: that of its PUMP (0)"
    static void promise13_noLiftNoPump(Checks c) {
        c.due("as deep", pumpedBy("law pump 7;", 2), 0);
        c.due("higher", pumpedBy("law pump 7;", 0), 0);
        c.due("deeper", pumpedBy("law pump 7;", 3), 7);
        RiverDrains x = Checks.town(TOWN + "law pump 7;");
        x.lay(0, 0, 0, 0, 0);
        c.due("nothing comes to it", x.cost(0, 1), 0);
    }

    // "LIFT is how much deeper the deepest one comes"
    static void promise13_theDeepestOne(Checks c) {
        RiverDrains x = Checks.town("corner a 30 2;corner b 10 1;corner c 1 1;corner d 40 1;corner e 40 1;street a b 1;street b c 1;"
            + "street d b 1;street e b 1;pipe 7 0;law pump lift;");
        x.lay(0, 0, 0, 2, 5);
        x.lay(3, 2, 0, 2, 9);
        x.lay(4, 3, 0, 2, 1);
        x.lay(1, 1, 0, 3, 2);
        c.due("9 less 3", x.cost(1, 1), 6);
        x.take(3);
        c.due("5 less 3", x.cost(1, 1), 2);
        x.take(0);
        c.due("none is deeper", x.cost(1, 1), 0);
        x.lay(3, 2, 0, 2, 12);
        x.lay(1, 1, 0, 0, 2);
        c.due("the most", x.cost(1, 1), 12);
    }

    // "pump's E by lift, flow", "Other NAMES are 0"
    static void promise13_namesOfPump(Checks c) {
        c.due("lift", pumpedBy("law pump lift;", 6), 4);
        c.due("others", pumpedBy("law pump 5+wide+fall+deep+rocky;law dig wide+deep;law carry wide+fall;", 6), 5);
    }

    // "flow (the greatest of the PIPE": that of the PIPE behind the PUMP, over all hours
    static void promise13_flowOfPump(Checks c) {
        c.due("5 on 2 and 1", pumpedBy("law pump flow;", 6), 15);
        RiverDrains x = Checks.town("corner a 30 2;corner b 10 1;corner c 1 1;street a b 1;street b c 1;pipe 7 0;law pump 3+flow;");
        x.lay(0, 0, 0, 2, 4);
        x.lay(1, 1, 0, 2, 2);
        c.due("without rain", x.cost(1, 1), 3);
        x = Checks.town("corner a 30 2;corner b 10 1;street a b 1;pipe 7 0;law pump 3+flow;rain z 9;");
        x.lay(0, 0, 0, 2, 4);
        x.lay(1, 0, 0, 2, 2);
        c.due("in a ring", x.cost(1, 1), 3);
    }

    // "without such a law 0"
    static void promise13_withoutALawPump(Checks c) {
        c.due("a lift, no law", pumpedBy("", 6), 0);
    }

    // "Each of dig, pump 0 at least": pump
    static void promise13_pumpZeroAtLeast(Checks c) {
        c.due("0-1", pumpedBy("law pump 0-1;", 6), 0);
    }

    // "ERROR: .. dig and pump 9999": pump
    static void promise13_pumpError(Checks c) {
        c.due("/ by 0", pumpedBy("law pump 1/(lift-4);", 6), 9999);
        c.due("no error", pumpedBy("law pump 1/(lift-3);", 6), 1);
        c.due("no lift, no error", pumpedBy("law pump 1/0;", 2), 0);
    }

    // "NONE: none is laid, no such ones"
    static void promise13_noneLaid(Checks c) {
        RiverDrains x = Checks.town(TOWN);
        x.lay(0, 0, 0, 2, 2);
        for (int what = 0; what < 2; what++) {
            c.due("none is laid " + what, x.cost(1, what), -1);
            c.due("the river's " + what, x.cost(2, what), -1);
            c.due("no such corner " + what, x.cost(3, what), -1);
        }
        c.due("what 2", x.cost(0, 2), -1);
        for (int beyond : BEYOND) {
            c.due("what " + beyond, x.cost(0, beyond), -1);
            c.due("corner " + beyond, x.cost(beyond, 0), -1);
        }
    }

    // "COST of all that is laid": of nothing
    static void promise14_nothingLaid(Checks c) {
        RiverDrains x = Checks.town(TOWN);
        c.due("nothing", x.all(), 0);
        x.lay(0, 0, 0, 2, 2);
        x.take(0);
        c.due("nothing again", x.all(), 0);
    }

    // "of all that is laid": PIPES and PUMPS, lawful or not, running to the river or not
    static void promise14_allThatIsLaid(Checks c) {
        RiverDrains x = Checks.town(TOWN + "law pump lift*100;");
        x.lay(0, 0, 0, 2, 6);
        c.due("one, to nowhere", x.all(), 5 * (1 + 4));
        x.lay(1, 1, 1, 2, 2);
        c.due("two and a pump", x.all(), 25 + 5 * (3 + 2) + 400);
        x.lay(1, 0, 1, 2, 4);
        c.due("a ring with two pumps", x.all(), 25 + 5 * (3 + 3) + 400 + 200);
    }
}
