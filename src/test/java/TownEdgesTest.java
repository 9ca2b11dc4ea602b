import java.util.NoSuchElementException;

/** Promises 5 to 8 and 33: what a TEXT has told, and what it has not. */
public final class TownEdgesTest {
    private static final int[] BEYOND = {Integer.MIN_VALUE, Integer.MIN_VALUE + 1, -1000, -2, -1, 1000, 65536, Integer.MAX_VALUE};
    private static final String SEVEN = "corner a 999 99 rock 20;corner b 0 0 rock 0;corner c 1 2;corner d 3 4;corner e 5 6 rock 7;"
        + "corner f 8 9;corner abcdef 10 11;";
    private static final String STREETS = "street a b 1;street c a 99 hours 3 risk 99;"
        + "street a d 2 hours 0 risk 0;street e a 3 risk 5;street a f 4 hours 1;street b c 1;street b d 1;street b e 1;street b f 1;"
        + "street abcdef f 7 hours 2 risk 8;";

    private TownEdgesTest() { }

    public static void main(String[] args) {
        Edges.run(TownEdgesTest.class, 5, 6, 7, 8, 33);
    }

    private static int thrown(RiverDrains x, int corner, int what) {
        try {
            x.look(corner, what);
            return 0;
        } catch (IndexOutOfBoundsException e) {
            return 1;
        } catch (NoSuchElementException e) {
            return 2;
        }
    }

    // "The number of a CORNER (what 0), RAIN (1)": "all numbered as they come"
    static void promise05_numberedAsTheyCome(Checks c) {
        RiverDrains x = Checks.town("corner z 1 1;rain z 1;corner y 1 1;rain b 1;corner a 1 1;rain a 1;rain x 1;");
        c.due("corner z", x.named(0, Checks.letters("z")), 0);
        c.due("corner y", x.named(0, Checks.letters("y")), 1);
        c.due("corner a", x.named(0, Checks.letters("a")), 2);
        c.due("rain z", x.named(1, Checks.letters("z")), 0);
        c.due("rain b", x.named(1, Checks.letters("b")), 1);
        c.due("rain a", x.named(1, Checks.letters("a")), 2);
        c.due("rain x", x.named(1, Checks.letters("x")), 3);
    }

    static void promise05_theSeventhCorner(Checks c) {
        RiverDrains x = Checks.town(SEVEN);
        c.due("the last one", x.named(0, Checks.letters("abcdef")), 6);
        c.due("the first one", x.named(0, Checks.letters("a")), 0);
    }

    // "5 bits each (a is 1; the first one highest of six"
    static void promise05_theFirstLetterHighest(Checks c) {
        RiverDrains x = Checks.town("corner a 1 1;corner z 1 1;corner ab 1 1;corner zzzzzz 1 1;");
        c.due("a", x.named(0, 1 << 25), 0);
        c.due("z", x.named(0, 26 << 25), 1);
        c.due("ab", x.named(0, 1 << 25 | 2 << 20), 2);
        c.due("zzzzzz", x.named(0, 26 << 25 | 26 << 20 | 26 << 15 | 26 << 10 | 26 << 5 | 26), 3);
    }

    // "0 behind the last one)"
    static void promise05_zeroBehindTheLastOne(Checks c) {
        RiverDrains x = Checks.town("corner a 1 1;rain a 1;");
        c.due("lowest", x.named(0, 1), -1);
        c.due("second", x.named(0, 1 << 20), -1);
        c.due("with one behind", x.named(0, 1 << 25 | 1), -1);
        c.due("rain with one behind", x.named(1, 1 << 25 | 1), -1);
        c.due("none", x.named(0, 0), -1);
        c.due("no rain", x.named(1, 0), -1);
    }

    // Bits above those of six letters are no letters.
    static void promise05_bitsAboveSixLetters(Checks c) {
        RiverDrains x = Checks.town("corner a 1 1;");
        c.due("bit 30", x.named(0, 1 << 25 | 1 << 30), -1);
        c.due("bit 31", x.named(0, 1 << 25 | 1 << 31), -1);
    }

    // "NONE: there is none such"
    static void promise05_noneSuch(Checks c) {
        RiverDrains x = Checks.town("corner a 1 1;corner b 1 1;rain d 1;");
        c.due("a rain's name is no corner's", x.named(0, Checks.letters("d")), -1);
        c.due("a corner's name is no rain's", x.named(1, Checks.letters("a")), -1);
        c.due("none of both", x.named(0, Checks.letters("c")), -1);
        for (int letters : BEYOND) {
            c.due("letters " + letters, x.named(0, letters), -1);
        }
    }

    static void promise05_anotherWhat(Checks c) {
        RiverDrains x = Checks.town("corner a 1 1;rain a 1;");
        c.due("what 2", x.named(2, Checks.letters("a")), -1);
        for (int what : BEYOND) {
            c.due("what " + what, x.named(what, Checks.letters("a")), -1);
        }
    }

    // "what 0 HEIGHT, 1 AREA, 2 rock": at their least and most
    static void promise06_leastAndMost(Checks c) {
        RiverDrains x = Checks.town(SEVEN);
        int[][] due = {{999, 99, 20}, {0, 0, 0}};
        for (int corner = 0; corner < 2; corner++) {
            for (int what = 0; what < 3; what++) {
                c.due("look " + corner + ", " + what, x.look(corner, what), due[corner][what]);
            }
        }
        c.due("the last corner", x.look(6, 1), 11);
    }

    // "(20 without)"
    static void promise06_rockWithout(Checks c) {
        RiverDrains x = Checks.town(SEVEN);
        c.due("without", x.look(2, 2), 20);
        c.due("with", x.look(4, 2), 7);
        c.due("without behind one with", x.look(5, 2), 20);
    }

    // "IndexOutOfBoundsException: no such CORNER"
    static void promise06_noSuchCorner(Checks c) {
        RiverDrains x = Checks.town("corner a 1 1;corner b 1 1;");
        c.due("the last one", thrown(x, 1, 0), 0);
        c.due("behind it", thrown(x, 2, 0), 1);
        for (int corner : BEYOND) {
            c.due("corner " + corner, thrown(x, corner, 0), 1);
        }
        c.due("an eighth", thrown(Checks.town(SEVEN), 7, 0), 1);
    }

    // A CORNER of the TEXT ahead is none.
    static void promise06_aCornerOfTheTextAhead(Checks c) {
        RiverDrains x = Checks.town(SEVEN);
        Checks.tell(x, "corner a 1 1;");
        c.due("the first", thrown(x, 0, 0), 0);
        c.due("the second", thrown(x, 1, 0), 1);
    }

    // "NoSuchElementException: no such what"
    static void promise06_noSuchWhat(Checks c) {
        RiverDrains x = Checks.town("corner a 1 1;");
        c.due("what 2", thrown(x, 0, 2), 0);
        c.due("what 3", thrown(x, 0, 3), 2);
        for (int what : BEYOND) {
            c.due("what " + what, thrown(x, 0, what), 2);
        }
    }

    // Both are wrong: the CORNER is told ahead.
    static void promise06_noSuchCornerAndWhat(Checks c) {
        RiverDrains x = Checks.town("corner a 1 1;");
        c.due("corner 1, what 3", thrown(x, 1, 3), 1);
        c.due("corner -1, what -1", thrown(x, -1, -1), 1);
    }

    // "what 0, 1 its CORNERS": as they are told, not by number
    static void promise07_cornersAsTold(Checks c) {
        RiverDrains x = Checks.town(SEVEN + STREETS);
        c.due("c of street c a", x.street(1, 0), 2);
        c.due("a of street c a", x.street(1, 1), 0);
        c.due("a of street a d", x.street(2, 0), 0);
        c.due("d of street a d", x.street(2, 1), 3);
    }

    // "2 LENGTH, 3 hours, 4 risk": at their least and most
    static void promise07_leastAndMost(Checks c) {
        RiverDrains x = Checks.town(SEVEN + STREETS);
        int[] most = {99, 3, 99};
        for (int what = 2; what < 5; what++) {
            c.due("street 1, " + what, x.street(1, what), most[what - 2]);
        }
        c.due("length", x.street(0, 2), 1);
        c.due("hours", x.street(2, 3), 0);
        c.due("risk", x.street(2, 4), 0);
    }

    // "hours 0 .. 3 that water runs in it (0); risk 0 .. 99 of 100 (1)"
    static void promise07_without(Checks c) {
        RiverDrains x = Checks.town(SEVEN + STREETS);
        c.due("hours without both", x.street(0, 3), 0);
        c.due("risk without both", x.street(0, 4), 1);
        c.due("hours without", x.street(3, 3), 0);
        c.due("risk with", x.street(3, 4), 5);
        c.due("hours with", x.street(4, 3), 1);
        c.due("risk without", x.street(4, 4), 1);
    }

    // "NONE: no such ones"
    static void promise07_noSuchStreet(Checks c) {
        RiverDrains x = Checks.town(SEVEN + STREETS);
        c.due("the tenth", x.street(9, 2), 7);
        c.due("an eleventh", x.street(10, 2), -1);
        for (int street : BEYOND) {
            c.due("street " + street, x.street(street, 2), -1);
        }
        c.due("without streets", Checks.town(SEVEN).street(0, 0), -1);
    }

    static void promise07_noSuchWhat(Checks c) {
        RiverDrains x = Checks.town(SEVEN + STREETS);
        c.due("what 5", x.street(1, 5), -1);
        for (int what : BEYOND) {
            c.due("what " + what, x.street(1, what), -1);
        }
    }

    // "what 0 WIDE, 1 COST": at their least and most
    static void promise08_leastAndMost(Checks c) {
        RiverDrains x = Checks.town("pipe 1 0;pipe 2 99;pipe 98 1;pipe 99 5;");
        int[][] due = {{1, 0}, {2, 99}, {98, 1}, {99, 5}};
        for (int pipe = 0; pipe < 4; pipe++) {
            c.due("wide " + pipe, x.pipe(pipe, 0), due[pipe][0]);
            c.due("cost " + pipe, x.pipe(pipe, 1), due[pipe][1]);
        }
    }

    // "NONE: no such ones"
    static void promise08_noSuchPipe(Checks c) {
        RiverDrains x = Checks.town("pipe 1 0;pipe 2 99;pipe 98 1;pipe 99 5;");
        c.due("a fifth", x.pipe(4, 0), -1);
        for (int pipe : BEYOND) {
            c.due("pipe " + pipe, x.pipe(pipe, 0), -1);
        }
        Checks.tell(x, "pipe 7 7;");
        c.due("one of the text ahead", x.pipe(1, 0), -1);
        c.due("the only one", x.pipe(0, 0), 7);
    }

    static void promise08_noSuchWhat(Checks c) {
        RiverDrains x = Checks.town("pipe 1 0;");
        c.due("what 2", x.pipe(0, 2), -1);
        for (int what : BEYOND) {
            c.due("what " + what, x.pipe(0, what), -1);
        }
    }

    // "0 CORNERS, 1 STREETS, 2 PIPES by width, 3 RAINS": as many as there can be
    static void promise33_asManyAsThereCanBe(Checks c) {
        RiverDrains x = Checks.town(SEVEN + STREETS + "pipe 1 0;pipe 2 0;pipe 3 0;pipe 4 0;rain a 1;rain b 1;rain c 1;rain d 1;");
        c.due("corners", x.count(0), 7);
        c.due("streets", x.count(1), 10);
        c.due("pipes", x.count(2), 4);
        c.due("rains", x.count(3), 4);
    }

    // "4 KNOTS": of all E, one for each N, NAME, sign, not, and, or
    static void promise33_knots(Checks c) {
        c.due("one", Checks.town("law carry 5;").count(4), 1);
        c.due("a name", Checks.town("law carry flow;").count(4), 1);
        c.due("brackets are none", Checks.town("law carry ((5));").count(4), 1);
        c.due("a sign of two is one", Checks.town("law carry 5<=wide;").count(4), 3);
        c.due("not, and, or", Checks.town("law carry not 1 and not 2 or 3;").count(4), 7);
        c.due("of all", Checks.town("law carry 5+1;law dig 5;law pump not 1;").count(4), 6);
        c.due("64", Checks.town("law dig not " + "1+".repeat(31) + "1;").count(4), 64);
    }

    // "5 PIPES laid"
    static void promise33_pipesLaid(Checks c) {
        RiverDrains x = Checks.town(SEVEN + STREETS + "pipe 1 0;river a 1;");
        c.due("none", x.count(5), 0);
        int[] street = {0, 0, 1, 2, 3, 4, 9};
        for (int corner = 1; corner < 7; corner++) {
            c.due("lay " + corner, x.lay(corner, street[corner], 0, 2, 2), true);
            c.due("laid", x.count(5), corner);
        }
        x.lay(6, 9, 0, 3, 3);
        c.due("one in place of another", x.count(5), 6);
        x.take(3);
        c.due("one taken up", x.count(5), 5);
        x = Checks.town(SEVEN + STREETS + "pipe 1 0;");
        for (int corner = 0; corner < 7; corner++) {
            x.lay(corner, street[corner], 0, 2, 2);
        }
        c.due("without a river one of each corner", x.count(5), 7);
    }

    // "6 the river's CORNER (NONE), 7 its level (NONE)"
    static void promise33_theRiver(Checks c) {
        RiverDrains x = Checks.town(SEVEN);
        c.due("no corner", x.count(6), -1);
        c.due("no level", x.count(7), -1);
        x = Checks.town(SEVEN + "river abcdef 999;");
        c.due("the last corner", x.count(6), 6);
        c.due("the highest level", x.count(7), 999);
        x = Checks.town(SEVEN + "river a 0;");
        c.due("the first corner", x.count(6), 0);
        c.due("the lowest level", x.count(7), 0);
    }

    // "8 what can be undone"
    static void promise33_whatCanBeUndone(Checks c) {
        RiverDrains x = Checks.town("corner a 9 1;corner b 1 1;street a b 1;pipe 1 1;");
        c.due("nothing", x.count(8), 0);
        for (int i = 1; i <= 22; i++) {
            x.lay(0, 0, 0, 2, 2);
            c.due("laid " + i, x.count(8), Math.min(20, i));
        }
        x.undo();
        c.due("undone", x.count(8), 19);
    }

    // "NONE for another what"
    static void promise33_anotherWhat(Checks c) {
        RiverDrains x = Checks.town(SEVEN);
        c.due("what 9", x.count(9), -1);
        for (int what : BEYOND) {
            c.due("what " + what, x.count(what), -1);
        }
    }

    // The LINES of a TEXT come in any order, but for a CORNER ahead of its river and streets.
    static void promise33_linesInAnyOrder(Checks c) {
        RiverDrains x = Checks.town("cart 0;law pump 1;rain z 1;cover 0 0;falls 0 0;pipe 1 1;corner a 1 1;river a 1;corner b 1 1;street b a 1;");
        int[] due = {2, 1, 1, 1, 1, 0, 0, 1, 0};
        for (int what = 0; what < due.length; what++) {
            c.due("count " + what, x.count(what), due[what]);
        }
    }
}
