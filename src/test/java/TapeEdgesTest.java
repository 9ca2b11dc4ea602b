import java.util.NoSuchElementException;

/** Promises 1 to 3: the new object, the TAPE, and which of its bytes are the TEXT. */
public final class TapeEdgesTest {
    private static final String TOWN = "corner a 40 2;corner r 20 0;river r 15;street a r 5;pipe 2 1;rain z 3;law dig 4;";

    private TapeEdgesTest() { }

    public static void main(String[] args) {
        Edges.run(TapeEdgesTest.class, 1, 2, 3);
    }

    private static RiverDrains laidTown() {
        RiverDrains x = Checks.town(TOWN);
        x.lay(0, 0, 0, 2, 3);
        x.keep();
        return x;
    }

    private static void stays(Checks c, RiverDrains x) {
        int[] due = {2, 1, 1, 1, 1, 1, 1, 15, 1};
        for (int what = 0; what < due.length; what++) {
            c.due("count " + what, x.count(what), due[what]);
        }
        c.due("the height", x.look(0, 0), 40);
        c.due("the name", x.named(0, Checks.letters("r")), 1);
        c.due("the pipe laid", x.net(0, 3), 3);
        c.due("the flow", x.flow(0, 0, 0), 6);
        c.due("the law dig", x.cost(0, 0), 5 * (1 + 4));
        c.due("what can be undone", x.undo(), 0);
        c.due("the image", x.back(), 1);
    }

    // "No TEXT"
    static void promise01_noText(Checks c) {
        RiverDrains x = new RiverDrains();
        for (int what = 0; what <= 4; what++) {
            c.due("count " + what, x.count(what), 0);
        }
        c.due("river", x.count(6), -1);
        c.due("level", x.count(7), -1);
        c.due("no corner", x.named(0, Checks.letters("a")), -1);
        c.due("no rain", x.named(1, Checks.letters("a")), -1);
        c.due("no street", x.street(0, 0), -1);
        c.due("no pipe", x.pipe(0, 0), -1);
        c.due("no fault", x.fault(0), 0);
        c.due("no place", x.fault(1), -1);
    }

    // "No TEXT": so no CORNER can be looked at.
    static void promise01_noCornerToLookAt(Checks c) {
        int threw = 0;
        try {
            new RiverDrains().look(0, 0);
        } catch (IndexOutOfBoundsException e) {
            threw = 1;
        } catch (NoSuchElementException e) {
            threw = 2;
        }
        c.due("look", threw, 1);
    }

    // "nothing laid"
    static void promise01_nothingLaid(Checks c) {
        RiverDrains x = new RiverDrains();
        c.due("laid", x.count(5), 0);
        c.due("undoable", x.count(8), 0);
        c.due("all", x.all(), 0);
        c.due("net", x.net(0, 0), -1);
        c.due("take", x.take(0), false);
        c.due("lay", x.lay(0, 0, 0, 2, 2), false);
        c.due("bursts", x.bursts(), -1);
        c.due("first", x.first(0), -1);
        c.due("first risk", x.first(1), -1);
        c.due("undo", x.undo(), -1);
        c.due("back", x.back(), -1);
        c.due("keep", x.keep(), 0);
        c.due("back to that", x.back(), 0);
    }

    // A town without anything: each question about a NET or a TREE still has its answer.
    static void promise01_nothingToJudge(Checks c) {
        RiverDrains x = new RiverDrains();
        c.due("judged", x.judged(0), 7);
        c.due("judged at", x.judged(1), -1);
        c.due("broken", x.broken(0), -1);
        c.due("carries", x.carries(0), -1);
        c.due("cost", x.cost(0, 0), -1);
        c.due("flow", x.flow(0, 0, 0), -1);
        c.due("flooded", x.flooded(0, 0, 0), -1);
        c.due("floods", x.floods(0), -1);
        c.due("worst", x.worst(0, 0), -1);
        c.due("burst", x.burst(0), -1);
        c.due("cheapest", x.cheapest(0), -1);
        c.due("laid", x.laid(0), false);
        c.due("tree", x.tree(0), -2);
        c.due("tree's bits", x.tree(1), -2);
        c.due("trees", x.tree(2), 0);
        c.due("without", x.without(0, 0), -1);
        c.due("stages", x.stages(0), -1);
        c.due("stage", x.stage(0, 0), -1);
    }

    // "an empty TAPE"
    static void promise01_emptyTape(Checks c) {
        RiverDrains x = new RiverDrains();
        c.due("not one byte", x.text(1), -2);
        c.due("nothing is a text", x.text(0), 0);
        c.due("the first twenty", x.feed(0, 0, 0, 0, 0), 20);
    }

    static void promise01_eachObjectIsItsOwn(Checks c) {
        RiverDrains one = laidTown();
        Checks.feed(one, "cart 1;");
        RiverDrains other = new RiverDrains();
        c.due("no corners", other.count(0), 0);
        c.due("nothing laid", other.count(5), 0);
        c.due("no image", other.back(), -1);
        c.due("an empty tape", other.text(1), -2);
        Checks.tell(other, "pipe 1 1;pipe 2 1;");
        c.due("the first one's pipes", one.count(2), 1);
    }

    // "An object is used for at most 512 calls": all of them are answered.
    static void promise01_allOf512Calls(Checks c) {
        RiverDrains x = laidTown();
        int told = (TOWN.length() + 19) / 20 + 3;
        for (int call = told; call < 511; call += 2) {
            c.due("lay", x.lay(0, 0, 0, 2 + call % 7, 3), true);
            c.due("tree", x.tree(0), 5 * (1 + 4));
        }
        c.due("the last one", x.back(), 1);
    }

    // "Twenty bytes come behind the TAPE": what is told first lies ahead.
    static void promise02_behindTheTape(Checks c) {
        RiverDrains x = new RiverDrains();
        x.feed(0x20202020, 0x20202020, 0x20202020, 0x20202020, 0x20636172);
        x.feed(0x74203720, 0x3b202020, 0x20202020, 0x20202020, 0x20202020);
        c.due("a word over both", x.text(25), 1);
    }

    // "four of each number, the highest first"
    static void promise02_theHighestFirst(Checks c) {
        RiverDrains x = new RiverDrains();
        x.feed(0x636f726e, 0x65722061, 0x62636465, 0x66203132, 0x33203435);
        x.feed(0x3b202020, 0x20202020, 0x20202020, 0x20202020, 0x20202020);
        c.due("corner abcdef 123 45;", x.text(21), 1);
        c.due("name", x.named(0, Checks.letters("abcdef")), 0);
        c.due("height", x.look(0, 0), 123);
        c.due("area", x.look(0, 1), 45);
    }

    // "how many it has"
    static void promise02_howManyItHas(Checks c) {
        RiverDrains x = new RiverDrains();
        for (int i = 1; i <= 35; i++) {
            c.due("feed " + i, x.feed(0, 0, 0, 0, 0), 20 * i);
        }
    }

    // "NONE .. if it would have more than 700"
    static void promise02_noneBeyond700(Checks c) {
        RiverDrains x = new RiverDrains();
        for (int i = 1; i < 35; i++) {
            x.feed(0, 0, 0, 0, 0);
        }
        c.due("700 are not more than 700", x.feed(0, 0, 0, 0, 0), 700);
        c.due("720 are", x.feed(0, 0, 0, 0, 0), -1);
        c.due("and again", x.feed(0, 0, 0, 0, 0), -1);
    }

    // "and none come": neither behind the 700 nor over those that are there.
    static void promise02_noneComeBeyond700(Checks c) {
        RiverDrains x = new RiverDrains();
        Checks.feed(x, " ".repeat(700 - 7) + "cart 7;");
        x.feed(0x23232323, 0x23232323, 0x23232323, 0x23232323, 0x23232323);
        c.due("no 701 bytes", x.text(701), -2);
        c.due("the 700", x.text(700), 1);
    }

    // A TAPE of 700 that a text() has emptied takes twenty again.
    static void promise02_againWhenEmptied(Checks c) {
        RiverDrains x = new RiverDrains();
        Checks.feed(x, "#".repeat(700));
        c.due("a fault", x.text(700), -1);
        c.due("twenty", x.feed(0x63617274, 0x20373b20, 0x20202020, 0x20202020, 0x20202020), 20);
        c.due("no byte of those ahead", x.text(20), 1);
    }

    // Bytes above 127 are bytes like others: no number is too low to be fed.
    static void promise02_numbersBelowZero(Checks c) {
        RiverDrains x = new RiverDrains();
        c.due("fed", x.feed(0x20202020, 0x202020ff, -1, Integer.MIN_VALUE, Integer.MAX_VALUE), 20);
        c.due("no token", x.text(20), -1);
        c.due("fault", x.fault(0), 1);
        c.due("its place", x.fault(1), 7);
    }

    // "The TAPE's first n bytes .. are the TEXT": none behind them is.
    static void promise03_theFirstNBytes(Checks c) {
        RiverDrains x = new RiverDrains();
        Checks.feed(x, "pipe 3 4;pipe 3 4;");
        c.due("one line", x.text(9), 1);
        c.due("one pipe", x.count(2), 1);
        Checks.feed(x, "pipe 3 45;");
        c.due("cut within a number", x.text(8), -1);
        c.due("more must come", x.fault(0), 1);
        c.due("at the length", x.fault(1), 8);
        Checks.feed(x, "law carry 1<=2;");
        c.due("cut within a sign", x.text(12), -1);
        c.due("at the end of the half", x.fault(1), 12);
        Checks.feed(x, "corner abcdefg 1 1;");
        c.due("cut within a word", x.text(13), -1);
        c.due("six letters are a word", x.fault(1), 13);
    }

    // "(it is empty then)": those behind the first n are gone, too.
    static void promise03_theTapeIsEmptyThen(Checks c) {
        RiverDrains x = new RiverDrains();
        Checks.feed(x, "cart 7;cart 8;");
        c.due("the first line", x.text(7), 1);
        c.due("none is left", x.text(1), -2);
        c.due("the next twenty are the first", x.feed(0x63617274, 0x20373b20, 0x20202020, 0x20202020, 0x20202020), 20);
        c.due("a text", x.text(7), 1);
    }

    // "(it is empty then)", with a FAULT as well
    static void promise03_theTapeIsEmptyWithAFault(Checks c) {
        RiverDrains x = new RiverDrains();
        Checks.feed(x, "cart 777;cart 8;");
        c.due("a fault", x.text(9), -1);
        c.due("none is left", x.text(1), -2);
        c.due("twenty", x.feed(0, 0, 0, 0, 0), 20);
    }

    static void promise03_theWholeTape(Checks c) {
        RiverDrains x = new RiverDrains();
        Checks.feed(x, "cart 7;             ");
        c.due("one more than there are", x.text(21), -2);
        c.due("all there are", x.text(20), 1);
    }

    // "how many LINES"
    static void promise03_howManyLines(Checks c) {
        c.fine("", 0);
        c.fine(" \n \n", 0);
        c.fine("cart 1;", 1);
        c.fine("cart 1; falls 1 2;\ncover 1 2;", 3);
        c.fine(TOWN, 7);
    }

    // "(nothing laid .. then)"
    static void promise03_nothingLaidThen(Checks c) {
        RiverDrains x = laidTown();
        c.due("the same text once more", Checks.tell(x, TOWN), 7);
        c.due("laid", x.count(5), 0);
        c.due("net", x.net(0, 0), -2);
        c.due("all", x.all(), 0);
        c.due("bursts", x.bursts(), -1);
    }

    // "(.. no IMAGE .. then)"
    static void promise03_noImageThen(Checks c) {
        RiverDrains x = laidTown();
        Checks.tell(x, TOWN);
        c.due("back", x.back(), -1);
    }

    // "(.. nothing to undo then)"
    static void promise03_nothingToUndoThen(Checks c) {
        RiverDrains x = laidTown();
        Checks.tell(x, TOWN);
        c.due("count", x.count(8), 0);
        c.due("undo", x.undo(), -1);
    }

    // Nothing of the TEXT ahead is left: what isn't told is as it is without.
    static void promise03_nothingOfTheTextAhead(Checks c) {
        RiverDrains x = Checks.town("corner q 1 1 rock 3;corner b 1 1;river q 1;street q b 1 hours 2 risk 7;pipe 5 5;rain s 9 9 9;"
            + "law carry 77;law dig 7;law pump 7;falls 3 3;cover 5 5;cart 9;");
        Checks.tell(x, "corner a 40 2;corner b 20 1;street a b 5;pipe 2 1;rain t 3;river b 1;");
        c.due("no q", x.named(0, Checks.letters("q")), -1);
        c.due("no s", x.named(1, Checks.letters("s")), -1);
        c.due("knots", x.count(4), 0);
        c.due("rock", x.look(0, 2), 20);
        c.due("hours", x.street(0, 3), 0);
        c.due("risk", x.street(0, 4), 1);
        x.lay(0, 0, 0, 2, 2);
        c.due("falls, cover", x.broken(0), 0);
        c.due("carry", x.carries(0), 8);
        c.due("dig", x.cost(0, 0), 5 * (1 + 2));
        c.due("the rain's second hour", x.flow(0, 0, 1), 0);
        c.due("cart", x.stages(0), 2);
        Checks.tell(x, "corner a 40 2;corner b 20 1;corner d 30 1;street a b 5;street d a 5;pipe 2 1;");
        c.due("no river", x.count(6), -1);
        c.due("no level", x.count(7), -1);
        x.lay(0, 0, 0, 2, 2);
        x.lay(2, 1, 0, 2, 7);
        c.due("pump", x.broken(0), 5);
    }

    // The same of a third TEXT and on: each begins anew.
    static void promise03_oneTextAfterAnother(Checks c) {
        RiverDrains x = new RiverDrains();
        for (int turn = 0; turn < 6; turn++) {
            Checks.tell(x, "corner a 9 1;corner b 1 1;river b 0;street a b 1;pipe 1 1;pipe 2 1;rain z 1 2 3 4 5 6;rain y 9;falls 0 1;cover 0 1;cart 5;"
                + "law dig 5+(6+7*1);law carry not 0;law pump 8;");
            c.due("knots", x.count(4), 10);
            x.lay(0, 0, 0, 2, 2);
            c.due("dug", x.cost(0, 0), 1 + 18);
            c.due("carries", x.carries(0), 1);
            c.due("rain", x.flow(0, 0, 5), 6);
            Checks.tell(x, "rain x 7;corner b 40 1;corner a 30 1;street b a 5;pipe 3 1;");
            c.due("rains", x.count(3), 1);
            c.due("pipes", x.count(2), 1);
            c.due("knots", x.count(4), 0);
            x.lay(0, 0, 0, 2, 2);
            c.due("lawful", x.broken(0), 6);
            c.due("carries", x.carries(0), 6);
            c.due("dug", x.cost(0, 0), 5 * (1 + 2));
            c.due("rain", x.flow(0, 0, 0), 7);
            c.due("an hour of another rain", x.flow(0, 0, 1), 0);
            c.due("a rain of another text", x.flow(0, 1, 0), -1);
            Checks.tell(x, "cart 3;");
            c.due("no rains", x.count(3), 0);
            c.due("no streets", x.count(1), 0);
            c.due("no pipes", x.count(2), 0);
        }
    }

    // A TEXT that follows one with a FAULT is read as if there had been none, wherever that stopped.
    static void promise03_behindAFault(Checks c) {
        String[] faults = {"corner a 9 1;corner b 9 1;corner a", "rain z 1 2 3 4 5 6 7", "rain z 9 9 9 9;rain z", "law carry (((1+2*(3", "law carry not 1+not",
            "law carry 1+*", "law carry 1<2<3", "law pump 1;law dig 10000", "cart 1;falls 1", "pipe 99 1;pipe", "corner a 9 1;river a", "law pump 1;#"};
        for (String fault : faults) {
            RiverDrains x = new RiverDrains();
            for (int turn = 0; turn < 3; turn++) {
                c.due("fault of " + fault, Checks.tell(x, fault), -1);
                c.due("text behind " + fault, Checks.tell(x, "cart 1;falls 1 9;cover 2 8;corner a 9 1;corner b 1 1;river b 0;street a b 1;pipe 5 1;rain z 1;"
                    + "law carry 7+2*1;"), 10);
                c.due("knots behind " + fault, x.count(4), 5);
                x.lay(0, 0, 0, 2, 2);
                c.due("carried behind " + fault, x.carries(0), 9);
                c.due("flow behind " + fault, x.flow(0, 0, 1), 0);
                c.due("dug behind " + fault, x.cost(0, 0), 3);
            }
        }
    }

    // "NONE with a FAULT, all stays"
    static void promise03_allStaysWithAFault(Checks c) {
        RiverDrains x = laidTown();
        c.due("at its end", Checks.tell(x, "corner q 1 1;river q 3;pipe 7 7;rain y 1;law carry 5;law dig 6;falls 9 9;cart 3;cart 3;"), -1);
        stays(c, x);
        x = laidTown();
        c.due("at once", Checks.tell(x, ";"), -1);
        stays(c, x);
    }

    // "-2 .. there are not so many": nothing changes.
    static void promise03_notSoMany(Checks c) {
        RiverDrains x = laidTown();
        Checks.feed(x, "cart 7;");
        c.due("one more", x.text(21), -2);
        c.due("the most", x.text(Integer.MAX_VALUE), -2);
        stays(c, x);
    }

    // "-2 .. n is below 0"
    static void promise03_belowZero(Checks c) {
        RiverDrains x = laidTown();
        Checks.feed(x, "cart 7;");
        c.due("-1", x.text(-1), -2);
        c.due("the least", x.text(Integer.MIN_VALUE), -2);
        stays(c, x);
    }

    // "-2, and the TAPE stays"
    static void promise03_theTapeStays(Checks c) {
        RiverDrains x = new RiverDrains();
        Checks.feed(x, "cart 7;");
        x.text(21);
        x.text(-1);
        c.due("behind it", x.feed(0, 0, 0, 0, 0), 40);
        c.due("what was there", x.text(20), 1);
    }

    // No byte at all is a TEXT, and takes what was told away.
    static void promise03_noBytes(Checks c) {
        RiverDrains x = laidTown();
        Checks.feed(x, "###");
        c.due("no lines", x.text(0), 0);
        c.due("the tape is empty", x.text(1), -2);
        c.due("no fault", x.fault(0), 0);
        for (int what = 0; what <= 5; what++) {
            c.due("count " + what, x.count(what), 0);
        }
        c.due("no river", x.count(6), -1);
        c.due("no image", x.back(), -1);
    }

    // "TEXT: { LINE ';' }": each LINE has its ';', and there is no ';' without a LINE.
    static void promise03_aLineAndItsSign(Checks c) {
        c.fault(";", 1, 0);
        c.fault("cart 1;;", 1, 7);
        c.fault("cart 1", 1, 6);
        c.fault("cart 1 falls 1 2;", 1, 7);
        c.fault("cart 1,", 1, 6);
    }

    // "Blanks 10, 32": of them as many as one likes, and of others none.
    static void promise03_blanks(Checks c) {
        c.fine("\n  cart\n\n7  \n;\n ", 1);
        c.fault("cart\t7;", 1, 4);
        c.fault("cart\r\n7;", 1, 4);
        c.fault("cart 7;\u0000", 1, 7);
        c.fault("cart 7;\u000b", 1, 7);
        c.fault("cart 7;\u00a0", 1, 7);
        c.fault("cart 7;\u008a", 1, 7);
        c.fault("\u000c", 1, 0);
    }

    // No blank has to stand between two TOKENS that are apart without it.
    static void promise03_withoutBlanks(Checks c) {
        c.fine("corner a1 2rock3;river a4;rain z1 2 3;law carry(wide+2)and not(fall<=3);", 4);
        c.fine("corner a 1 1;corner b 1 1;street a b1hours2risk3;", 3);
        c.fault("cornera 1 1;", 1, 0);
    }

    // A blank ends a TOKEN.
    static void promise03_blanksPart(Checks c) {
        c.fault("ca rt 7;", 1, 0);
        c.fault("cart 7 7;", 1, 7);
        c.fault("law carry 1< =2;", 1, 13);
    }

    // "Words: small letters in a row"
    static void promise03_smallLetters(Checks c) {
        c.fine("corner az 1 1;", 1);
        c.fault("Cart 7;", 1, 0);
        c.fault("corner aZ 1 1;", 1, 8);
        c.fault("corner ` 1 1;", 1, 7);
        c.fault("corner { 1 1;", 1, 7);
        c.fault("corner a_b 1 1;", 1, 8);
        c.fault("corner \u00e4 1 1;", 1, 7);
    }

    // "W: one of 1 .. 6 letters"
    static void promise03_oneToSixLetters(Checks c) {
        c.fine("corner q 1 1;rain q 1;", 2);
        c.fine("corner abcdef 1 1;rain abcdef 1;", 2);
        c.fault("corner abcdefg 1 1;", 1, 7);
        c.fault("rain abcdefg 1;", 1, 5);
        c.fault("corner abcdef 1 1;river abcdefg 1;", 1, 24);
        c.fault("corner 1 1;", 1, 7);
        c.fault("rain 1;", 1, 5);
    }

    // "none of those of the language"
    static void promise03_noWordOfTheLanguage(Checks c) {
        for (String word : Oracle.LANGUAGE) {
            c.fault("corner " + word + " 1 1;", 1, 7);
            c.fault("rain " + word + " 1;", 1, 5);
            c.fault("river " + word + " 1;", 1, 6);
            c.fault("street " + word + " a 1;", 1, 7);
        }
        c.fine("corner laws 1 1;corner corn 1 1;corner ro 1 1;corner no 1 1;rain riv 1;", 5);
    }

    // "N: digits"
    static void promise03_digits(Checks c) {
        c.fine("corner a 0 9;", 1);
        c.fine("corner a 000 0009;", 1);
        c.fine("cart 0000000000000000000000000000000000000000000000000000000000099;", 1);
        c.fault("cart -1;", 1, 5);
        c.fault("cart +1;", 1, 5);
        c.fault("cart 1.5;", 1, 6);
        c.fault("cart :;", 1, 5);
        c.fault("cart 1a;", 1, 6);
        c.fault("cart a;", 1, 5);
    }

    // Each LINE in its shortest and in its longest form.
    static void promise03_formsOfLines(Checks c) {
        c.fine("corner a 1 2;corner b 1 2 rock 3;river a 4;street a b 5;", 4);
        c.fine("corner a 1 2;corner b 1 2;street a b 5 hours 1;", 3);
        c.fine("corner a 1 2;corner b 1 2;street a b 5 risk 1;", 3);
        c.fine("corner a 1 2;corner b 1 2;street a b 5 hours 1 risk 1;", 3);
        c.fine("pipe 1 2;falls 3 4;cover 5 6;rain z 7;rain y 8 9 1 2 3 4;law carry 5;law dig 6;law pump 7;cart 8;", 9);
    }

    // A LINE that lacks one part has its FAULT at the ';' that stands there.
    static void promise03_linesThatLackAPart(Checks c) {
        String[] lines = {"corner a 1 1", "river a 1", "street a b 1", "pipe 1 1", "falls 1 1", "cover 1 1", "rain z 1", "law carry 1",
            "cart 1"};
        String ahead = "corner a 1 1;corner b 1 1;";
        for (String line : lines) {
            for (int cut = line.indexOf(' '); cut >= 0; cut = line.indexOf(' ', cut + 1)) {
                String begun = (line.startsWith("corner") ? "" : ahead) + line.substring(0, cut);
                c.fault(begun + ";", 1, begun.length());
            }
        }
        for (String begun : new String[] {"corner c 1 1 rock", "street a b 1 hours", "street a b 1 risk", "street a b 1 hours 1 risk"}) {
            c.fault(ahead + begun + ";", 1, ahead.length() + begun.length());
        }
    }

    // A LINE that has more than its parts has its FAULT at the first that is more.
    static void promise03_linesThatHaveMore(Checks c) {
        String ahead = "corner a 1 1;corner b 1 1;";
        String[] lines = {"corner c 1 1", "corner c 1 1 rock 1", "river a 1", "street a b 1", "street a b 1 hours 1",
            "street a b 1 hours 1 risk 1", "pipe 1 1", "falls 1 1", "cover 1 1", "law carry 1", "cart 1"};
        for (String line : lines) {
            c.fault(ahead + line + " 1;", 1, ahead.length() + line.length() + 1);
            c.fault(ahead + line + " a;", 1, ahead.length() + line.length() + 1);
        }
        c.fault(ahead + "rain z 1 a;", 1, ahead.length() + 9);
        c.fault(ahead + "corner c 1 1 rock 1 rock 1;", 1, ahead.length() + 20);
        c.fault(ahead + "street a b 1 hours 1 hours 1;", 1, ahead.length() + 21);
        c.fault(ahead + "street a b 1 risk 1 risk 1;", 1, ahead.length() + 20);
        c.fault(ahead + "street a b 1 risk 1 hours 1;", 1, ahead.length() + 20);
        c.fault(ahead + "street a b 1 rock 1;", 1, ahead.length() + 13);
        c.fault(ahead + "corner c 1 1 risk 1;", 1, ahead.length() + 13);
    }

    // A LINE begins with one of nine words.
    static void promise03_wordsThatBeginNoLine(Checks c) {
        for (String word : Oracle.LANGUAGE) {
            if ("corner river street pipe falls cover rain law cart".indexOf(word) < 0) {
                c.fault("cart 1;" + word + " 1 1;", 1, 7);
            }
        }
        c.fault("cart 1;lake 1;", 1, 7);
        c.fault("cart 1;1;", 1, 7);
        c.fault("cart 1;(", 1, 7);
    }

    // "law KIND E", "KIND: carry | dig | pump"
    static void promise03_kindsOfLaws(Checks c) {
        c.fine("law carry 1;law dig 1;law pump 1;", 3);
        for (String word : Oracle.LANGUAGE) {
            if ("carry dig pump".indexOf(word) < 0) {
                c.fault("law " + word + " 1;", 1, 4);
            }
        }
        c.fault("law laws 1;", 1, 4);
        c.fault("law 1;", 1, 4);
    }
}
