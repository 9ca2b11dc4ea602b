/** Promises 27 to 29: the STAGES of building, a told order, and where to LOOK first. */
public final class PlanEdgesTest {
    private static final int[] BEYOND = {Integer.MIN_VALUE, Integer.MIN_VALUE + 1, -1000, -2, -1, 1000, 65536, Integer.MAX_VALUE};
    /** A star: a, b, c each run to the river r. */
    private static final String STAR = "corner a 40 2;corner b 40 5;corner c 40 3;corner r 30 9;river r 10;"
        + "street a r 5;street b r 5;street c r 5;pipe 2 1;";
    /** a runs to b, b to c, c to the river r; d runs to the river, too. */
    private static final String ROW = "corner a 60 9;corner b 50 1;corner c 40 1;corner r 30 0;corner d 40 4;river r 10;"
        + "street a b 5 risk 10;street b c 5 risk 9;street c r 5;street d r 5 risk 0;street a r 5;street b d 5;pipe 2 1;";
    /** Three CORNERS in a ring, d runs to it, e apart. */
    private static final String RING = "corner a 9 2;corner b 9 3;corner c 9 5;corner d 9 7;corner e 9 1;street a b 1 risk 2;street b c 1;"
        + "street c a 1 risk 2;street d a 1 risk 1;street d e 1 risk 99;pipe 1 0;";

    private PlanEdgesTest() { }

    public static void main(String[] args) {
        Edges.run(PlanEdgesTest.class, 27, 28, 29);
    }

    private static RiverDrains star(String more) {
        RiverDrains x = Checks.town(STAR + more);
        for (int corner = 0; corner < 3; corner++) {
            x.lay(corner, corner, 0, 2, 2);
        }
        return x;
    }

    private static RiverDrains row(String more) {
        RiverDrains x = Checks.town(ROW + more);
        x.lay(0, 0, 0, 2, 2);
        x.lay(1, 1, 0, 2, 2);
        x.lay(2, 2, 0, 2, 2);
        x.lay(4, 3, 0, 2, 2);
        return x;
    }

    private static void order(Checks c, RiverDrains x, long sum, int... corners) {
        c.due("sum", x.stages(0), sum);
        for (int i = 0; i < corners.length; i++) {
            c.due("built as " + (i + 1), x.stages(i + 1), corners[i]);
        }
        c.due("no one more", x.stages(corners.length + 1), -1);
    }

    // "in each STAGE each CORNER that can't come to the river yet, as the STAGE begins, costs cart times AREA"
    static void promise27_asTheStageBegins(Checks c) {
        order(c, star("cart 1;"), (2 + 5 + 3) + (2 + 3) + 2, 1, 2, 0);
        order(c, star("cart 7;"), 7 * (10 + 5 + 2), 1, 2, 0);
    }

    // "cart: 0 .. 99 (1)": without, 0 and the most
    static void promise27_cart(Checks c) {
        c.due("without", star("").stages(0), 17);
        c.due("the most", star("cart 99;").stages(0), 99 * 17);
        order(c, star("cart 0;"), 0, 0, 1, 2);
    }

    // "none ahead of the one into which it runs"
    static void promise27_noneAhead(Checks c) {
        // a has the greatest AREA, but c and b have to come first: that is dearer than d first.
        order(c, row(""), 15 + 11 + 10 + 9, 4, 2, 1, 0);
        RiverDrains x = Checks.town(ROW.replace("a 60 9", "a 60 20"));
        x.lay(0, 0, 0, 2, 2);
        x.lay(1, 1, 0, 2, 2);
        x.lay(2, 2, 0, 2, 2);
        x.lay(4, 3, 0, 2, 2);
        order(c, x, 26 + 25 + 24 + 4, 2, 1, 0, 4);
    }

    // "of several orders the first by CORNERS"
    static void promise27_theFirstOrder(Checks c) {
        RiverDrains x = Checks.town(STAR.replace("40 5", "40 2").replace("40 3", "40 2"));
        x.lay(0, 0, 0, 2, 2);
        x.lay(1, 1, 0, 2, 2);
        x.lay(2, 2, 0, 2, 2);
        order(c, x, 6 + 4 + 2, 0, 1, 2);
        order(c, row("cart 0;"), 0, 2, 1, 0, 4);
    }

    // The river's CORNER comes to the river as it is: its AREA costs nothing, and it is built in no STAGE.
    static void promise27_theRiversArea(Checks c) {
        c.due("9 at the river", star("").stages(0), 17);
        RiverDrains x = Checks.town("corner r 30 9;corner a 40 2;river r 10;street a r 5;pipe 2 1;");
        x.lay(1, 0, 0, 2, 2);
        order(c, x, 2, 1);
    }

    // AREAS of 0 cost nothing; the order is the first one all the same.
    static void promise27_noArea(Checks c) {
        RiverDrains x = Checks.town(STAR.replace("40 2", "40 0").replace("40 5", "40 0").replace("40 3", "40 0"));
        x.lay(0, 0, 0, 2, 2);
        x.lay(1, 1, 0, 2, 2);
        x.lay(2, 2, 0, 2, 2);
        order(c, x, 0, 0, 1, 2);
    }

    // One CORNER: nothing is to be built.
    static void promise27_oneCorner(Checks c) {
        RiverDrains x = Checks.town("corner a 1 1;river a 9;");
        order(c, x, 0);
        c.due("an order of none", x.stage(0, 0), 0);
    }

    // As many as there can be: six PIPES
    static void promise27_sixPipes(Checks c) {
        RiverDrains x = Checks.town("corner a 9 1;corner b 9 2;corner d 9 3;corner e 9 4;corner f 9 5;corner g 9 99;corner r 9 0;river r 0;"
            + "street g f 1;street f e 1;street e d 1;street d b 1;street b a 1;street a r 1;pipe 1 1;falls 0 9;cart 99;");
        for (int corner = 0; corner < 6; corner++) {
            c.due("lay", x.lay(corner, 5 - corner, 0, 2, 2), true);
        }
        order(c, x, 99 * (114 + 113 + 111 + 108 + 104 + 99), 0, 1, 2, 3, 4, 5);
        c.due("told", x.stage(6, 0x543210), x.stages(0));
    }

    // A NET need not be lawful otherwise.
    static void promise27_otherLaws(Checks c) {
        RiverDrains x = Checks.town(STAR);
        x.lay(0, 0, 0, 12, 0);
        x.lay(1, 1, 0, 0, 12);
        x.lay(2, 2, 0, 1, 1);
        order(c, x, 17, 1, 2, 0);
    }

    // "NONE: the NET breaks LAW 7"
    static void promise27_law7(Checks c) {
        RiverDrains x = star("");
        x.take(2);
        for (int what = 0; what < 4; what++) {
            c.due("one is missing, what " + what, x.stages(what), -1);
        }
        x = row("");
        x.lay(1, 0, 0, 2, 2);
        c.due("a ring", x.stages(0), -1);
        x = Checks.town(STAR.replace("river r 10;", ""));
        x.lay(0, 0, 0, 2, 2);
        x.lay(1, 1, 0, 2, 2);
        x.lay(2, 2, 0, 2, 2);
        c.due("no river", x.stages(0), -1);
        c.due("nothing laid", Checks.town(STAR).stages(0), -1);
    }

    // "NONE: .. no such ones"
    static void promise27_noSuchOnes(Checks c) {
        RiverDrains x = star("");
        c.due("the third", x.stages(3), 0);
        c.due("a fourth", x.stages(4), -1);
        for (int what : BEYOND) {
            c.due("what " + what, x.stages(what), -1);
        }
    }

    // The STAGES follow the NET as it is laid.
    static void promise27_ofTheNetLaid(Checks c) {
        RiverDrains x = row("");
        c.due("a over b and c", x.stages(1), 4);
        x.lay(0, 4, 0, 2, 2);
        order(c, x, 15 + 6 + 2 + 1, 0, 4, 2, 1);
        x.undo();
        c.due("as before", x.stages(0), 45);
    }

    // "A told order judged (n CORNERS, four bits each, the first lowest): its sum"
    static void promise28_theFirstLowest(Checks c) {
        RiverDrains x = star("");
        c.due("1 2 0", x.stage(3, 0x021), 10 + 5 + 2);
        c.due("0 1 2", x.stage(3, 0x210), 10 + 8 + 3);
        c.due("2 0 1", x.stage(3, 0x102), 10 + 7 + 5);
        x = star("cart 99;");
        c.due("cart 99", x.stage(3, 0x021), 99 * 17);
        c.due("cart 0", star("cart 0;").stage(3, 0x102), 0);
    }

    // "-2: one runs into none that is built"
    static void promise28_intoNoneThatIsBuilt(Checks c) {
        RiverDrains x = row("");
        c.due("c b a d", x.stage(4, 0x4012), 15 + 14 + 13 + 4);
        c.due("d first", x.stage(4, 0x0124), 15 + 11 + 10 + 9);
        c.due("a ahead of b", x.stage(4, 0x4102), -2);
        c.due("b first", x.stage(4, 0x4021), -2);
        c.due("a first", x.stage(4, 0x4120), -2);
    }

    // "-2: .. isn't there": no CORNER, or one without a PIPE
    static void promise28_isntThere(Checks c) {
        RiverDrains x = star("");
        c.due("the river's at the end", x.stage(3, 0x310), -2);
        c.due("the river's first", x.stage(3, 0x103), -2);
        c.due("the river's besides", x.stage(4, 0x3210), -2);
        for (int corner = 4; corner < 16; corner++) {
            c.due("corner " + corner, x.stage(3, 0x10 | corner << 8), -2);
        }
    }

    // "-2: .. or comes twice"
    static void promise28_comesTwice(Checks c) {
        RiverDrains x = star("");
        c.due("1 1 0", x.stage(3, 0x011), -2);
        c.due("0 1 0", x.stage(3, 0x010), -2);
        c.due("all, and one again", x.stage(4, 0x0210), -2);
    }

    // "-2: .. or not all come"
    static void promise28_notAllCome(Checks c) {
        RiverDrains x = star("");
        c.due("two", x.stage(2, 0x10), -2);
        c.due("one", x.stage(1, 0x0), -2);
        c.due("none", x.stage(0, 0), -2);
        c.due("two, the third is told behind them", x.stage(2, 0x210), -2);
    }

    // "n CORNERS": bits behind them are none of the order
    static void promise28_bitsBehind(Checks c) {
        RiverDrains x = star("");
        c.due("more bits", x.stage(3, 0xfff021), 17);
        c.due("the highest", x.stage(3, 0x80000021), 17);
        c.due("all of them", x.stage(0, -1), -2);
        c.due("one corner", Checks.town("corner a 1 1;river a 9;").stage(0, -1), 0);
    }

    // An n of more than there are can't be met.
    static void promise28_moreThanThereAre(Checks c) {
        RiverDrains x = star("");
        c.due("too many of three", x.stage(6, 0x210210), -2);
        c.due("n 4", x.stage(4, 0x0021), -2);
        c.due("n 5", x.stage(5, 0x00021), -2);
    }

    // "NONE: the NET breaks LAW 7"
    static void promise28_law7(Checks c) {
        RiverDrains x = star("");
        x.take(2);
        c.due("one is missing", x.stage(2, 0x10), -1);
        c.due("all are told", x.stage(3, 0x210), -1);
        c.due("nothing told", x.stage(0, 0), -1);
        x = row("");
        x.lay(1, 0, 0, 2, 2);
        c.due("a ring", x.stage(4, 0x4012), -1);
        c.due("no river", Checks.town("corner a 1 1;").stage(0, 0), -1);
    }

    // "NONE: .. no such n (0 .. 6)"
    static void promise28_noSuchN(Checks c) {
        RiverDrains x = star("");
        c.due("n 6", x.stage(6, 0x021), -2);
        c.due("n 7", x.stage(7, 0x021), -1);
        for (int n : BEYOND) {
            c.due("n " + n, x.stage(n, 0x021), -1);
        }
    }

    // "the PIPE with the greatest risk times all AREA that runs through it"
    static void promise29_riskTimesArea(Checks c) {
        RiverDrains x = Checks.town(ROW.replace("a b 5 risk 10", "a b 5 risk 9"));
        x.lay(0, 0, 0, 2, 2);
        c.due("a: 9 * 9", x.first(1), 81);
        x.lay(1, 1, 0, 2, 2);
        c.due("b: 9 * (9 + 1)", x.first(1), 90);
        c.due("b", x.first(0), 1);
        x = row("");
        x.lay(0, 4, 0, 2, 2);
        c.due("b has 9, a 9 by the other street, c 2", x.first(1), 9);
        x = row("");
        x.take(0);
        c.due("b: 9 * 1", x.first(0), 1);
        x.take(1);
        c.due("c: 1 * 1", x.first(0), 2);
    }

    // ".. of several the first CORNER"
    static void promise29_theFirstCorner(Checks c) {
        RiverDrains x = row("");
        c.due("a and b have 90", x.first(0), 0);
        x.lay(0, 4, 0, 2, 2);
        c.due("a and b have 9", x.first(0), 0);
    }

    // A risk of 0, and an AREA of 0: a PIPE is told all the same.
    static void promise29_noRisk(Checks c) {
        RiverDrains x = Checks.town(ROW);
        x.lay(4, 3, 0, 2, 2);
        c.due("d", x.first(0), 4);
        c.due("0", x.first(1), 0);
        x = Checks.town(ROW.replace("a 60 9", "a 60 0"));
        x.lay(4, 3, 0, 2, 2);
        x.lay(0, 0, 0, 2, 2);
        c.due("the first of two with 0", x.first(0), 0);
        c.due("0", x.first(1), 0);
    }

    // "(of each CORNER once, of a ring too)"
    static void promise29_ofARing(Checks c) {
        RiverDrains x = Checks.town(RING);
        x.lay(0, 0, 0, 2, 2);
        x.lay(1, 1, 0, 2, 2);
        x.lay(2, 2, 0, 2, 2);
        c.due("a ring: the first of two with risk 2", x.first(0), 0);
        c.due("each once", x.first(1), 2 * (2 + 3 + 5));
        x.lay(3, 3, 0, 2, 2);
        c.due("what runs to the ring, too", x.first(1), 2 * (2 + 3 + 5 + 7));
        x.take(0);
        c.due("no ring any more: d, c and b run to a", x.first(0), 2);
        c.due("c has b's and its own", x.first(1), 2 * (3 + 5));
    }

    // "of a ring too": the greatest ring of all, round the numbers and against them
    static void promise29_ofARingOfSeven(Checks c) {
        RiverDrains x = Checks.town("corner a 9 1;corner b 9 2;corner d 9 4;corner e 9 8;corner f 9 16;corner g 9 32;corner h 9 64;"
            + "street a b 1 risk 0;street b d 1 risk 0;street d e 1 risk 0;street e f 1 risk 0;street f g 1 risk 0;street g h 1 risk 0;"
            + "street h a 1 risk 3;pipe 1 1;");
        for (int corner = 0; corner < 7; corner++) {
            x.lay(corner, corner, 0, 2, 2);
        }
        c.due("h", x.first(0), 6);
        c.due("all of it", x.first(1), 3 * 127);
        for (int corner = 0; corner < 7; corner++) {
            x.lay(corner, (corner + 6) % 7, 0, 2, 2);
        }
        c.due("a", x.first(0), 0);
        c.due("all of it again", x.first(1), 3 * 127);
    }

    // The greatest: 99 times the AREA of all
    static void promise29_theGreatest(Checks c) {
        RiverDrains x = Checks.town("corner a 9 99;corner b 9 99;corner d 9 99;corner e 9 99;corner f 9 99;corner g 9 99;corner r 9 99;river r 0;"
            + "street g f 1;street f e 1;street e d 1;street d b 1;street b a 1;street a r 1 risk 99;pipe 1 1;");
        for (int corner = 0; corner < 6; corner++) {
            x.lay(corner, 5 - corner, 0, 2, 2);
        }
        c.due("whose", x.first(0), 0);
        c.due("the river's area runs through no pipe", x.first(1), 99 * 6 * 99);
    }

    // "NONE: nothing is laid"
    static void promise29_nothingLaid(Checks c) {
        RiverDrains x = Checks.town(ROW);
        c.due("whose", x.first(0), -1);
        c.due("what", x.first(1), -1);
        x.lay(0, 0, 0, 2, 2);
        x.take(0);
        c.due("taken up", x.first(0), -1);
        c.due("taken up", x.first(1), -1);
    }

    // "NONE: .. no such what"
    static void promise29_noSuchWhat(Checks c) {
        RiverDrains x = row("");
        c.due("what 2", x.first(2), -1);
        for (int what : BEYOND) {
            c.due("what " + what, x.first(what), -1);
        }
    }
}
