/** Promise 4 and the FAULTS of "Terms": each least and most, each place. */
public final class FaultEdgesTest {
    private static final String AB = "corner a 1 1;corner b 1 1;";
    private static final String KNOTS_63 = "law dig " + "1+".repeat(31) + "1";
    private static final String KNOTS_64 = "law dig not " + "1+".repeat(31) + "1";

    private FaultEdgesTest() { }

    public static void main(String[] args) {
        Edges.run(FaultEdgesTest.class, 4);
    }

    /** A number at its least and most is fine, beyond them it is FAULT 2 at the number. */
    private static void limits(Checks c, String ahead, int least, int most, String behind) {
        int lines = (int) (ahead + behind).chars().filter(sign -> sign == ';').count();
        c.fine(ahead + least + behind, lines);
        c.fine(ahead + most + behind, lines);
        c.fine(ahead + "000000000000000000000" + most + behind, lines);
        c.fault(ahead + (most + 1) + behind, 2, ahead.length());
        if (least > 0) {
            c.fault(ahead + (least - 1) + behind, 2, ahead.length());
        }
        // These would come back into bounds if a number went round.
        c.fault(ahead + ((1L << 32) + least) + behind, 2, ahead.length());
        c.fault(ahead + "18446744073709551617" + behind, 2, ahead.length());
        c.fault(ahead + "1000000000000000000000000000000" + behind, 2, ahead.length());
    }

    // "Of the latest text()": ahead of the first one there is no FAULT.
    static void promise04_aheadOfTheFirstText(Checks c) {
        RiverDrains x = new RiverDrains();
        c.due("fault", x.fault(0), 0);
        c.due("place", x.fault(1), -1);
        x.text(-1);
        c.due("fault", x.fault(0), 0);
        c.due("place", x.fault(1), -1);
    }

    // "that was not -2"
    static void promise04_notOfATextThatIsRefused(Checks c) {
        RiverDrains x = new RiverDrains();
        Checks.tell(x, "cart 7;cart 7;");
        x.text(-1);
        x.text(1);
        c.due("fault", x.fault(0), 3);
        c.due("place", x.fault(1), 7);
    }

    // "Of the latest": a FAULT follows a FAULT, and none follows one.
    static void promise04_theLatest(Checks c) {
        RiverDrains x = new RiverDrains();
        Checks.tell(x, "cart 7;cart 7;");
        Checks.tell(x, "   cart 100;");
        c.due("fault", x.fault(0), 2);
        c.due("place", x.fault(1), 8);
        Checks.tell(x, "cart 7;");
        c.due("no fault", x.fault(0), 0);
        c.due("no place", x.fault(1), -1);
    }

    // A FAULT may have the place 0; that is not NONE.
    static void promise04_thePlaceZero(Checks c) {
        c.fault("#", 1, 0);
    }

    // "NONE for another what"
    static void promise04_anotherWhat(Checks c) {
        RiverDrains x = new RiverDrains();
        Checks.tell(x, "   cart 100;");
        for (int what : new int[] {-1, 2, 3, Integer.MIN_VALUE, Integer.MAX_VALUE}) {
            c.due("what " + what, x.fault(what), -1);
        }
    }

    // "1 a TOKEN that is none"
    static void promise04_fault1TokensThatAreNone(Checks c) {
        for (int sign = 0; sign < 256; sign++) {
            boolean token = sign >= 'a' && sign <= 'z' || sign >= '0' && sign <= '9' || "\n ;()<=>+-*/".indexOf(sign) >= 0;
            if (!token) {
                c.fault("cart 1;" + (char) sign, 1, 7);
                c.fault("cart 1" + (char) sign + ";", 1, 6);
                c.fault("law carry ((1)" + (char) sign + ";", 1, 14);
                for (int number = 0; number < 40; number++) {
                    String law = "law carry " + number;
                    c.fault(law + (char) sign + "1;", 1, law.length());
                }
            }
        }
    }

    // "(a word of more than 6 letters, too)": where any TOKEN would do, too, and at its first letter.
    static void promise04_fault1LongWords(Checks c) {
        c.fault("corners a 1 1;", 1, 0);
        c.fault("corner a 1 1 rockyyy 1;", 1, 13);
        c.fault("law carry 1+abcdefgh;", 1, 12);
        c.fault("corner " + "z".repeat(600) + " 1 1;", 1, 7);
    }

    // "or can't stand there"
    static void promise04_fault1CantStandThere(Checks c) {
        c.fault("cart cart;", 1, 5);
        c.fault("corner 1;", 1, 7);
        c.fault("corner a b 1;", 1, 9);
        c.fault("cart (1);", 1, 5);
        c.fault("cart 1=1;", 1, 6);
    }

    // "(the length, if more must come)": that of the TEXT, its last blanks with it.
    static void promise04_fault1TheLength(Checks c) {
        c.fault("c", 1, 0);
        c.fault("cart", 1, 4);
        c.fault("cart 7", 1, 6);
        c.fault("cart 7 \n ", 1, 9);
        c.fault("law carry (1", 1, 12);
        c.fault("law carry 1+", 1, 12);
        c.fault("law", 1, 3);
        c.fault("corner a 1 1;river", 1, 18);
        c.fault("corner a 1 1 rock", 1, 17);
        c.fault(AB + "street a b 1 hours", 1, AB.length() + 18);
    }

    static void promise04_fault2Height(Checks c) {
        limits(c, "corner a ", 0, 999, " 5;");
    }

    static void promise04_fault2Area(Checks c) {
        limits(c, "corner a 5 ", 0, 99, ";");
    }

    static void promise04_fault2Rock(Checks c) {
        limits(c, "corner a 5 5 rock ", 0, 20, ";");
    }

    static void promise04_fault2Level(Checks c) {
        limits(c, "corner a 5 5;river a ", 0, 999, ";");
    }

    static void promise04_fault2Length(Checks c) {
        limits(c, AB + "street a b ", 1, 99, ";");
    }

    static void promise04_fault2Hours(Checks c) {
        limits(c, AB + "street a b 5 hours ", 0, 3, ";");
    }

    static void promise04_fault2Risk(Checks c) {
        limits(c, AB + "street a b 5 risk ", 0, 99, ";");
        limits(c, AB + "street a b 5 hours 3 risk ", 0, 99, ";");
    }

    static void promise04_fault2Wide(Checks c) {
        limits(c, "pipe ", 1, 99, " 5;");
    }

    static void promise04_fault2Cost(Checks c) {
        limits(c, "pipe 5 ", 0, 99, ";");
    }

    // "each wider than the one ahead"
    static void promise04_fault2NoWiderThanTheOneAhead(Checks c) {
        limits(c, "pipe 5 5;pipe ", 6, 99, " 5;");
        c.fault("pipe 5 5;pipe 5 5;", 2, 14);
        c.fault("pipe 5 5;pipe 4 5;", 2, 14);
        c.fault("pipe 1 5;pipe 99 5;pipe 99 5;", 2, 24);
        c.fine("pipe 98 5;pipe 99 0;", 2);
    }

    // "falls: of each LENGTH at least, at most, 0 .. 99"
    static void promise04_fault2Falls(Checks c) {
        limits(c, "falls ", 0, 99, " 99;");
        limits(c, "falls 0 ", 0, 99, ";");
    }

    // "(.. the second not below the first)"
    static void promise04_fault2FallsTurned(Checks c) {
        limits(c, "falls 7 ", 7, 99, ";");
        c.fault("falls 99 98;", 2, 9);
    }

    // "cover: DEEP at least, at most, 0 .. 12"
    static void promise04_fault2Cover(Checks c) {
        limits(c, "cover ", 0, 12, " 12;");
        limits(c, "cover 0 ", 0, 12, ";");
    }

    // "(.. likewise)"
    static void promise04_fault2CoverTurned(Checks c) {
        limits(c, "cover 7 ", 7, 12, ";");
        c.fault("cover 12 11;", 2, 9);
    }

    // "RAINS, at most 4: 1 .. 6 hours, 0 .. 99 each"
    static void promise04_fault2RainOfAnHour(Checks c) {
        limits(c, "rain a ", 0, 99, ";");
        limits(c, "rain a 1 2 3 4 5 ", 0, 99, ";");
        limits(c, "rain a 1 ", 0, 99, " 1;");
    }

    // "a seventh hour of a RAIN (at it)"
    static void promise04_fault2ASeventhHour(Checks c) {
        c.fine("rain a 1 2 3 4 5 6;", 1);
        c.fault("rain a 1 2 3 4 5 6 7;", 2, 19);
        c.fault("rain a 1 2 3 4 5 6 700;", 2, 19);
        c.fault("rain a 1 2 3 4 5 6 7", 2, 19);
        c.fine("rain a 1 2 3 4 5 6;rain b 1 2 3 4 5 6;", 2);
    }

    // "1 .. 6 hours": a RAIN without one.
    static void promise04_fault1NoHour(Checks c) {
        c.fault("rain a;", 1, 6);
        c.fault("rain a", 1, 6);
    }

    static void promise04_fault2Cart(Checks c) {
        limits(c, "cart ", 0, 99, ";");
    }

    // "N of E 0 .. 9999"
    static void promise04_fault2NumbersOfLaws(Checks c) {
        limits(c, "law carry ", 0, 9999, ";");
        limits(c, "law dig 1+(2*", 0, 9999, ");");
        limits(c, "law pump not ", 0, 9999, " or 1;");
    }

    // "an eighth corner .. (at the word of the LINE)"
    static void promise04_fault2AnEighthCorner(Checks c) {
        String seven = "corner a 1 1;corner b 1 1;corner c 1 1;corner d 1 1;corner e 1 1;corner f 1 1;corner g 1 1;";
        c.fine(seven, 7);
        c.fault(seven + "corner h 1 1;", 2, seven.length());
        c.fault(seven + "corner", 2, seven.length());
        c.fault(seven + "cart 1; corner a 1 1;", 2, seven.length() + 8);
    }

    // "and so on": an eleventh street
    static void promise04_fault2AnEleventhStreet(Checks c) {
        StringBuilder text = new StringBuilder("corner a 1 1;corner b 1 1;corner c 1 1;corner d 1 1;corner e 1 1;");
        for (char one = 'a'; one < 'e'; one++) {
            for (char other = (char) (one + 1); other <= 'e'; other++) {
                text.append("street ").append(one).append(' ').append(other).append(" 1;");
            }
        }
        c.fine(text.toString(), 15);
        c.fault(text + "street a b 1;", 2, text.length());
        c.fault(text + "street;", 2, text.length());
    }

    // "and so on": a fifth pipe
    static void promise04_fault2AFifthPipe(Checks c) {
        String four = "pipe 1 0;pipe 2 0;pipe 3 0;pipe 99 0;";
        c.fine(four, 4);
        c.fault(four + "pipe 100 0;", 2, four.length());
        c.fault(four + "pipe", 2, four.length());
    }

    // "and so on": a fifth rain
    static void promise04_fault2AFifthRain(Checks c) {
        String four = "rain a 1;rain b 1;rain c 1;rain d 1;";
        c.fine(four, 4);
        c.fault(four + "rain e 1;", 2, four.length());
        c.fault(four + "rain a 1;", 2, four.length());
    }

    // "a ninth '(' open"
    static void promise04_fault2ANinthBracket(Checks c) {
        c.fine("law carry ((((((((1))))))));", 1);
        c.fault("law carry (((((((((1)))))))));", 2, 18);
        c.fault("law carry (((((((((", 2, 18);
        c.fault("law carry 1+((((((((1)+1)*((2+(3", 2, 30);
    }

    // ".. open": what has been closed is no more, and each E begins without.
    static void promise04_fault2ClosedBrackets(Checks c) {
        c.fine("law carry ((((((((1))))))))+((((((((1))))))));", 1);
        c.fine("law carry (1)+(1)+(1)+(1)+(1)+(1)+(1)+(1)+(1)+(1);", 1);
        c.fine("law carry ((((((((1))))))));law dig ((((((((1))))))));", 2);
        c.fault("law carry ((((((((1)))+((((1", 2, 26);
    }

    // "a 65th KNOT of all E": N and NAMES
    static void promise04_fault2A65thSide(Checks c) {
        c.fine(KNOTS_64 + ";", 1);
        c.fault(KNOTS_63 + "+1;", 2, KNOTS_63.length() + 1);
        c.fault(KNOTS_63 + "+10000;", 2, KNOTS_63.length() + 1);
        c.fault(KNOTS_63 + " and wide;", 2, KNOTS_63.length() + 5);
    }

    // "a 65th KNOT of all E": signs, and, or
    static void promise04_fault2A65thSign(Checks c) {
        for (String sign : new String[] {"+", "-", "*", "/", "<", "<=", "=", "<>", ">=", ">", "and", "or"}) {
            c.fault(KNOTS_64 + " " + sign + " 1;", 2, KNOTS_64.length() + 1);
        }
    }

    // "a 65th KNOT of all E": not
    static void promise04_fault2A65thNot(Checks c) {
        c.fault(KNOTS_63 + " and not 1;", 2, KNOTS_63.length() + 5);
        c.fine("law dig " + "not ".repeat(63) + "1;", 1);
        c.fault("law dig " + "not ".repeat(65) + "1;", 2, 8 + 4 * 64);
    }

    // "of all E": the KNOTS of all three laws are one row.
    static void promise04_fault2KnotsOfAllLaws(Checks c) {
        c.fine(KNOTS_63 + ";law carry 1;", 2);
        c.fault(KNOTS_63 + ";law carry not 1;", 2, KNOTS_63.length() + 15);
        c.fault(KNOTS_63 + ";law carry 1;law pump 1;", 2, KNOTS_63.length() + 22);
    }

    // Brackets and ';' are no KNOTS.
    static void promise04_fault2BracketsAreNoKnots(Checks c) {
        c.fine(KNOTS_63.replace("law dig ", "law dig ((((((((") + "))))))));law carry (((1)));", 2);
        c.fault(KNOTS_64 + "(1);", 1, KNOTS_64.length());
        c.fault(KNOTS_63 + "+(1);", 2, KNOTS_63.length() + 2);
    }

    // A TEXT begins without KNOTS, whatever was told ahead.
    static void promise04_fault2KnotsOfTheTextAhead(Checks c) {
        RiverDrains x = Checks.town(KNOTS_64 + ";");
        c.due("full", x.count(4), 64);
        c.due("with a fault", Checks.tell(x, KNOTS_64 + "+1;"), -1);
        c.due("full again", Checks.tell(x, KNOTS_64 + ";"), 1);
    }

    // "3 told already: a name of its kind (at W)": of a CORNER
    static void promise04_fault3CornersName(Checks c) {
        c.fault("corner a 1 1;corner b 1 1;corner a 1 1;", 3, 33);
        c.fault("corner abcdef 1 1;corner abcdef", 3, 25);
        c.fine("corner a 1 1;corner aa 1 1;corner aaa 1 1;corner abcdef 1 1;corner abcde 1 1;", 5);
    }

    // "a name of its kind (at W)": of a RAIN
    static void promise04_fault3RainsName(Checks c) {
        c.fault("rain a 1;rain b 1;rain b 1;", 3, 23);
        c.fine("rain a 1;rain aa 1;", 2);
    }

    // "CORNERS, RAINS have names of their kind": the same name may be told of both.
    static void promise04_fault3NamesOfAnotherKind(Checks c) {
        c.fine("corner a 1 1;rain a 1;rain b 1;corner b 1 1;", 4);
    }

    // "river .. (at the word)": of another CORNER, too
    static void promise04_fault3River(Checks c) {
        c.fault(AB + "river a 1;river a 1;", 3, AB.length() + 10);
        c.fault(AB + "river a 1;river b 1;", 3, AB.length() + 10);
        c.fault(AB + "river a 1;river", 3, AB.length() + 10);
    }

    // "falls .. (at the word)": as told ahead or not
    static void promise04_fault3Falls(Checks c) {
        c.fault("falls 1 9;falls 1 9;", 3, 10);
        c.fault("falls 1 9;falls 2 3;", 3, 10);
    }

    // "cover .. (at the word)"
    static void promise04_fault3Cover(Checks c) {
        c.fault("cover 2 8;cover 2 8;", 3, 10);
        c.fine("cover 2 8;falls 1 9;", 2);
    }

    // "cart (at the word)": what it tells doesn't matter, the number that it has without, too.
    static void promise04_fault3Cart(Checks c) {
        c.fault("cart 1;cart 1;", 3, 7);
        c.fault("cart 0;cart;", 3, 7);
    }

    // "a law of its KIND (at KIND)"
    static void promise04_fault3Laws(Checks c) {
        c.fault("law carry 1;law carry 1;", 3, 16);
        c.fault("law dig 1;law carry 1;law dig", 3, 26);
        c.fault("law pump 0;law pump 0;", 3, 15);
    }

    // "a street between the same two (at the second W)": whichever is told first
    static void promise04_fault3Street(Checks c) {
        c.fault(AB + "street a b 1;street a b 2;", 3, AB.length() + 22);
        c.fault(AB + "street a b 1;street b a 2;", 3, AB.length() + 22);
        c.fine(AB + "corner c 1 1;street a b 1;street b c 1;street c a 1;", 6);
    }

    // "4 a CORNER that isn't told ahead (at W)": the river's
    static void promise04_fault4River(Checks c) {
        c.fault("river a 1;", 4, 6);
        c.fault("river a 1;corner a 1 1;", 4, 6);
        c.fault("corner a 1 1;river aa 1;", 4, 19);
        c.fault("rain a 1;river a 1;", 4, 15);
    }

    // "4 a CORNER that isn't told ahead (at W)": both of a street
    static void promise04_fault4Street(Checks c) {
        c.fault("corner a 1 1;street b a 1;corner b 1 1;", 4, 20);
        c.fault("corner a 1 1;street a b 1;corner b 1 1;", 4, 22);
        c.fault("street b b 1;", 4, 7);
    }

    // "5 a street from a CORNER to itself (at the second W)"
    static void promise04_fault5Street(Checks c) {
        c.fault("corner a 1 1;street a a 1;", 5, 22);
        c.fault(AB + "street a b 1;street b b", 5, AB.length() + 22);
    }

    // "the first along the text": whatever its number
    static void promise04_theFirstAlongTheText(Checks c) {
        c.fault("corner a 1 1;street a a 0#", 5, 22);
        c.fault("street z a 100;#", 4, 7);
        c.fault("cart 1;cart 100#", 3, 7);
        c.fault("cart 100 #", 2, 5);
        c.fault("cart 1 #100;cart 1;", 1, 7);
        c.fault(AB + "street a b 1;street a b 100;", 3, AB.length() + 22);
    }

    // "(of one place the least)": a TOKEN that would be too much or told already, but can't stand there
    static void promise04_ofOnePlaceTheLeast(Checks c) {
        String seven = "corner a 1 1;corner b 1 1;corner c 1 1;corner d 1 1;corner e 1 1;corner f 1 1;corner g 1 1";
        c.fault(seven + " corner h 1 1;", 1, seven.length() + 1);
        c.fault("cart 1 cart 1;", 1, 7);
        c.fault("cart 1 100;", 1, 7);
        c.fault("law carry 1 10000;", 1, 12);
        c.fault("law carry (((((((( 1 (", 1, 21);
        c.fault(KNOTS_64 + " 1;", 1, KNOTS_64.length() + 1);
        c.fault(KNOTS_64 + " wide;", 1, KNOTS_64.length() + 1);
        c.fault(KNOTS_64 + " not 1;", 1, KNOTS_64.length() + 1);
        c.fault(KNOTS_63 + "+not 1;", 1, KNOTS_63.length() + 1);
    }

    // The same of comparisons: a second one can't stand there, be it the 65th KNOT or not.
    static void promise04_ofOnePlaceTheLeastByComparisons(Checks c) {
        String compared = "law dig not 1<" + "1+".repeat(30) + "1";
        c.fault(compared + "<1;", 1, compared.length());
        c.fault(compared + "+1;", 2, compared.length());
    }

    // "E: A { or A }" and on: what can't begin, follow or end a side
    static void promise04_sidesOfLaws(Checks c) {
        c.fault("law carry ;", 1, 10);
        c.fault("law carry or 1;", 1, 10);
        c.fault("law carry and 1;", 1, 10);
        c.fault("law carry *1;", 1, 10);
        c.fault("law carry -1;", 1, 10);
        c.fault("law carry <1;", 1, 10);
        c.fault("law carry 1+;", 1, 12);
        c.fault("law carry 1 or;", 1, 14);
        c.fault("law carry 1 or or 1;", 1, 15);
        c.fault("law carry 1 and ;", 1, 16);
        c.fault("law carry not;", 1, 13);
        c.fault("law carry 1+*1;", 1, 12);
        c.fault("law carry 1 1;", 1, 12);
        c.fault("law carry wide fall;", 1, 15);
        c.fault("law carry 1 wide;", 1, 12);
        c.fault("law carry (1)(1);", 1, 13);
        c.fault("law carry 1(1);", 1, 11);
        c.fault("law carry (1)1;", 1, 13);
    }

    // "B: not B | C": behind a sign there is none
    static void promise04_whereNotCanStand(Checks c) {
        c.fine("law carry not not 1 or not 1 and not(not 1);", 1);
        c.fault("law carry 1 not 1;", 1, 12);
        for (String sign : new String[] {"+", "-", "*", "/", "<", "<=", "=", "<>", ">=", ">"}) {
            c.fault("law carry 1" + sign + " not 1;", 1, 12 + sign.length());
        }
        c.fine("law carry 1+(not 1);", 1);
    }

    // "C: S [ ( < | .. ) S ]": one comparison, but for brackets and what and, or, not part
    static void promise04_oneComparison(Checks c) {
        c.fault("law carry 1<2<3;", 1, 13);
        c.fault("law carry 1=2<>3;", 1, 13);
        c.fault("law carry 1<2+3*4>=5;", 1, 17);
        c.fault("law carry not 1<2<3;", 1, 17);
        c.fault("law carry (1<2<3);", 1, 14);
        c.fine("law carry (1<2)<3;", 1);
        c.fine("law carry 1<(2<3);", 1);
        c.fine("law carry 1<2 and 2<3 or 3<4 and not 5<6;", 1);
    }

    // "A = (or > behind <) right behind < or > belongs to it"
    static void promise04_signsOfTwo(Checks c) {
        c.fine("law carry 1<=2 and 1>=2 and 1<>2;", 1);
        c.fault("law carry 1< =2;", 1, 13);
        c.fault("law carry 1> =2;", 1, 13);
        c.fault("law carry 1< >2;", 1, 13);
        c.fault("law carry 1<\n=2;", 1, 13);
        c.fault("law carry 1=<2;", 1, 12);
        c.fault("law carry 1=>2;", 1, 12);
        c.fault("law carry 1==2;", 1, 12);
        c.fault("law carry 1><2;", 1, 12);
        c.fault("law carry 1>>2;", 1, 12);
        c.fault("law carry 1<<2;", 1, 12);
        c.fault("law carry 1<=>2;", 1, 13);
        c.fault("law carry 1<>=2;", 1, 13);
        c.fault("law carry 1<==2;", 1, 13);
        c.fault("law carry 1>==2;", 1, 13);
    }

    // A sign of two that can't stand there has the place of its first half.
    static void promise04_signsOfTwoElsewhere(Checks c) {
        c.fault("cart <=1;", 1, 5);
        c.fault("law carry <>1;", 1, 10);
        c.fault("law carry 1<2>=3;", 1, 13);
    }

    // "P: N | NAME | '(' E ')'": each bracket has its other half in the same E.
    static void promise04_halvesOfBrackets(Checks c) {
        c.fault("law carry );", 1, 10);
        c.fault("law carry ();", 1, 11);
        c.fault("law carry 1);", 1, 11);
        c.fault("law carry (1));", 1, 13);
        c.fault("law carry (1;", 1, 12);
        c.fault("law carry ((1);", 1, 14);
        c.fault("law carry (1+);", 1, 13);
        c.fault("law carry (1;law dig 1);", 1, 12);
    }

    // "NAME: wide fall deep rocky lift flow": each in each law, and no other word.
    static void promise04_namesOfLaws(Checks c) {
        c.fine("law carry wide+fall+deep+rocky+lift+flow;law dig wide+fall+deep+rocky+lift+flow;law pump lift+fall+wide+deep;", 3);
        for (String word : Oracle.LANGUAGE) {
            if (!Oracle.NAMES.contains(word)) {
                c.fault("law carry 1+" + word + ";", 1, 12);
            }
        }
        c.fault("corner a 1 1;law carry a;", 1, 23);
        c.fault("law carry widest;", 1, 10);
    }
}
