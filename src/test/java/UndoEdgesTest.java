/** Promises 30 to 32: what can be undone, and the IMAGE. */
public final class UndoEdgesTest {
    private static final String TOWN = "corner a 40 2;corner b 30 3;corner r 20 1;river r 10;"
        + "street a b 5;street b r 5;street a r 10;pipe 2 1;pipe 5 3;rain z 1;";

    private UndoEdgesTest() { }

    public static void main(String[] args) {
        Edges.run(UndoEdgesTest.class, 30, 31, 32);
    }

    private static void pipe(Checks c, String when, RiverDrains x, int corner, int street, int width, int a, int b) {
        int[] due = {street, width, a, b};
        for (int what = 0; what < 4; what++) {
            c.due(when + ": net " + corner + ", " + what, x.net(corner, what), due[what]);
        }
    }

    // "NONE: none"
    static void promise30_none(Checks c) {
        c.due("nothing told", new RiverDrains().undo(), -1);
        RiverDrains x = Checks.town(TOWN);
        c.due("nothing laid", x.undo(), -1);
        x.lay(0, 0, 0, 2, 2);
        c.due("the only one", x.undo(), 0);
        c.due("none again", x.undo(), -1);
        c.due("still none", x.count(5), 0);
    }

    // "Each PIPE laid .. can be undone": one that was laid where none was
    static void promise30_aPipeLaid(Checks c) {
        RiverDrains x = Checks.town(TOWN);
        x.lay(0, 0, 0, 2, 2);
        x.lay(1, 1, 0, 2, 2);
        c.due("undo", x.undo(), 1);
        c.due("gone", x.net(1, 0), -2);
        pipe(c, "the other one", x, 0, 0, 0, 2, 2);
    }

    // One laid in place of another: that one is there again.
    static void promise30_aPipeInPlaceOfAnother(Checks c) {
        RiverDrains x = Checks.town(TOWN);
        x.lay(0, 0, 0, 3, 4);
        x.lay(0, 2, 1, 5, 6);
        c.due("undo", x.undo(), 1);
        pipe(c, "the one ahead", x, 0, 0, 0, 3, 4);
    }

    // "or taken up"
    static void promise30_aPipeTakenUp(Checks c) {
        RiverDrains x = Checks.town(TOWN);
        x.lay(0, 2, 1, 5, 6);
        x.take(0);
        c.due("undo", x.undo(), 1);
        pipe(c, "it is back", x, 0, 2, 1, 5, 6);
        c.due("laid", x.count(5), 1);
    }

    // "(and a NET laid)": with all its PIPES at once
    static void promise30_aNetLaid(Checks c) {
        RiverDrains x = Checks.town(TOWN);
        x.lay(0, 0, 1, 5, 6);
        c.due("laid", x.laid(0b110), true);
        c.due("both", x.count(5), 2);
        c.due("undo", x.undo(), 1);
        pipe(c, "as it was", x, 0, 0, 1, 5, 6);
        c.due("none at b", x.net(1, 0), -2);
    }

    // "the latest first"
    static void promise30_theLatestFirst(Checks c) {
        RiverDrains x = Checks.town(TOWN);
        x.lay(0, 0, 0, 2, 2);
        x.lay(0, 0, 0, 3, 3);
        x.take(0);
        x.lay(0, 0, 0, 4, 4);
        c.due("three", x.undo(), 3);
        c.due("taken up", x.net(0, 2), -2);
        c.due("two", x.undo(), 2);
        pipe(c, "the second one", x, 0, 0, 0, 3, 3);
        c.due("one", x.undo(), 1);
        pipe(c, "the first one", x, 0, 0, 0, 2, 2);
        c.due("none", x.undo(), 0);
        c.due("nothing", x.net(0, 2), -2);
    }

    // "(20 at most)": the twenty latest
    static void promise30_twentyAtMost(Checks c) {
        RiverDrains x = Checks.town(TOWN);
        for (int i = 1; i <= 33; i++) {
            x.lay(0, 0, i % 2, i % 13, i % 7);
            c.due("after " + i, x.count(8), Math.min(20, i));
        }
        for (int i = 32; i >= 13; i--) {
            c.due("undo", x.undo(), i - 13);
            pipe(c, "as after " + i, x, 0, 0, i % 2, i % 13, i % 7);
        }
        c.due("no more", x.undo(), -1);
        pipe(c, "the thirteenth stays", x, 0, 0, 1, 0, 6);
    }

    // Just twenty can all be undone, down to nothing.
    static void promise30_justTwenty(Checks c) {
        RiverDrains x = Checks.town(TOWN);
        for (int i = 1; i <= 20; i++) {
            x.lay(0, 0, 0, i % 13, 2);
        }
        for (int i = 19; i >= 0; i--) {
            c.due("undo", x.undo(), i);
        }
        c.due("nothing is laid", x.count(5), 0);
        c.due("no more", x.undo(), -1);
    }

    // What comes behind an undo is the latest then; an undo itself can't be undone.
    static void promise30_undoIsNotUndone(Checks c) {
        RiverDrains x = Checks.town(TOWN);
        x.lay(0, 0, 0, 2, 2);
        x.lay(0, 0, 0, 3, 3);
        x.undo();
        c.due("one is left", x.count(8), 1);
        x.lay(0, 0, 0, 4, 4);
        c.due("undo", x.undo(), 1);
        pipe(c, "not 3", x, 0, 0, 0, 2, 2);
        c.due("undo", x.undo(), 0);
    }

    // A row of twenty that goes round: more are laid and undone by turns.
    static void promise30_roundAndRound(Checks c) {
        RiverDrains x = Checks.town(TOWN);
        for (int i = 0; i < 25; i++) {
            x.lay(0, 0, 0, 1, 1);
        }
        for (int i = 0; i < 15; i++) {
            x.undo();
        }
        for (int i = 2; i <= 12; i++) {
            x.lay(0, 0, 0, i, i);
        }
        c.due("five and eleven", x.count(8), 16);
        for (int i = 11; i >= 2; i--) {
            c.due("undo", x.undo(), 5 + i - 1);
            pipe(c, "back to", x, 0, 0, 0, i, i);
        }
        c.due("undo", x.undo(), 5);
        pipe(c, "back to the old ones", x, 0, 0, 0, 1, 1);
    }

    // Calls that are refused, and those that only ask or keep, leave nothing to undo.
    static void promise30_nothingChanged(Checks c) {
        RiverDrains x = Checks.town(TOWN);
        x.lay(0, 1, 0, 2, 2);
        x.take(0);
        x.laid(0b111);
        x.keep();
        x.tree(0);
        x.cheapest(3);
        x.stages(0);
        c.due("undoable", x.count(8), 0);
        c.due("undo", x.undo(), -1);
    }

    // A PIPE laid just as it was is laid, too.
    static void promise30_theSameAgain(Checks c) {
        RiverDrains x = Checks.town(TOWN);
        x.lay(0, 0, 0, 2, 2);
        x.lay(0, 0, 0, 2, 2);
        c.due("undoable", x.count(8), 2);
        c.due("undo", x.undo(), 1);
        pipe(c, "the same", x, 0, 0, 0, 2, 2);
    }

    // "how many PIPES are laid"
    static void promise31_howManyAreLaid(Checks c) {
        RiverDrains x = Checks.town(TOWN);
        c.due("none", x.keep(), 0);
        x.lay(0, 0, 0, 2, 2);
        c.due("one", x.keep(), 1);
        x.lay(1, 1, 0, 2, 2);
        c.due("two", x.keep(), 2);
        c.due("nothing told", new RiverDrains().keep(), 0);
    }

    // "An IMAGE keeps the NET": as it is then, and nothing changes by it
    static void promise31_asItIsThen(Checks c) {
        RiverDrains x = Checks.town(TOWN);
        x.lay(0, 2, 1, 5, 6);
        x.keep();
        pipe(c, "kept", x, 0, 2, 1, 5, 6);
        c.due("undoable", x.count(8), 1);
        x.lay(0, 0, 0, 2, 2);
        x.lay(1, 1, 0, 2, 2);
        c.due("back", x.back(), 1);
        pipe(c, "as it was", x, 0, 2, 1, 5, 6);
        c.due("none at b", x.net(1, 0), -2);
    }

    // "(in place of one ahead)"
    static void promise31_inPlaceOfOneAhead(Checks c) {
        RiverDrains x = Checks.town(TOWN);
        x.lay(0, 0, 0, 2, 2);
        x.keep();
        x.lay(0, 0, 0, 3, 3);
        x.keep();
        x.lay(0, 0, 0, 4, 4);
        x.back();
        pipe(c, "the second image", x, 0, 0, 0, 3, 3);
        x.take(0);
        x.keep();
        x.lay(0, 0, 0, 5, 5);
        c.due("an image without pipes", x.back(), 0);
        c.due("none", x.net(0, 0), -2);
    }

    // "NONE: there is none": and all stays
    static void promise32_thereIsNone(Checks c) {
        c.due("nothing told", new RiverDrains().back(), -1);
        RiverDrains x = Checks.town(TOWN);
        x.lay(0, 0, 0, 2, 2);
        c.due("back", x.back(), -1);
        pipe(c, "it stays", x, 0, 0, 0, 2, 2);
        c.due("undoable", x.count(8), 1);
    }

    // "(nothing to undo then)"
    static void promise32_nothingToUndoThen(Checks c) {
        RiverDrains x = Checks.town(TOWN);
        for (int i = 0; i < 25; i++) {
            x.lay(0, 0, 0, 2, 2);
        }
        x.keep();
        c.due("back", x.back(), 1);
        c.due("undoable", x.count(8), 0);
        c.due("undo", x.undo(), -1);
        x.take(0);
        c.due("one then", x.count(8), 1);
        c.due("undo", x.undo(), 0);
        pipe(c, "undone", x, 0, 0, 0, 2, 2);
    }

    // The IMAGE stays: one can go back as often as one likes.
    static void promise32_again(Checks c) {
        RiverDrains x = Checks.town(TOWN);
        x.lay(0, 0, 0, 2, 3);
        x.keep();
        for (int i = 0; i < 3; i++) {
            x.take(0);
            x.lay(1, 1, 1, 4, 4);
            c.due("back", x.back(), 1);
            pipe(c, "as it was", x, 0, 0, 0, 2, 3);
        }
        x.lay(0, 0, 0, 7, 7);
        x.undo();
        c.due("back once more", x.back(), 1);
        pipe(c, "as it was", x, 0, 0, 0, 2, 3);
    }

    // The IMAGE is no part of what is undone.
    static void promise32_undoLeavesTheImage(Checks c) {
        RiverDrains x = Checks.town(TOWN);
        x.lay(0, 0, 0, 2, 3);
        x.keep();
        x.undo();
        c.due("nothing laid", x.count(5), 0);
        c.due("back", x.back(), 1);
        pipe(c, "as it was", x, 0, 0, 0, 2, 3);
    }

    // All answers are those of the NET that is back.
    static void promise32_answersOfTheNet(Checks c) {
        RiverDrains x = Checks.town(TOWN);
        x.laid(0b011);
        long cost = x.all();
        x.keep();
        x.take(0);
        c.due("law 7", x.judged(0), 7);
        c.due("back", x.back(), 2);
        c.due("lawful", x.judged(0), 0);
        c.due("cost", x.all(), cost);
        c.due("flow", x.flow(1, 0, 0), 5);
        c.due("stages", x.stages(0), 5 + 2);
    }
}
