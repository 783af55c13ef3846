/** Promises 28 to 33 with their words in section 3 of 'Terms', at their edges: what was seen, the book. */
public final class SeenEdgesTest extends Edge {
    public static void main(String[] args) {
        run(SeenEdgesTest.class);
    }

    private static void seen8(CardBand x) {
        loomOf(x, FOUR);
        for (int i = 0; i < 8; i++) {
            x.see(i % 4, i + 1, i % 3);
        }
    }

    private static void book20(CardBand x) {
        loomOf(x, FOUR);
        for (int i = 0; i < 20; i++) {
            x.write(i % 4, NONE);
        }
    }

    // ---- promise 28

    @Says({"SEEN (8 at most)", "SEEN: how much.", "FULL (8)."})
    static void promise28_see_8AtMost() {
        CardBand x = woven(FOUR);
        for (int i = 1; i <= 8; i++) {
            due("no. " + i, x.see(i % 4, i, i % 4), i);
        }
        due("a ninth", x.see(0, 1, 0), FULL);
        due("a ninth of another card", x.see(3, 99, 3), FULL);
        due("seen", x.told(11), 8);
        x.tear();
        due("room again", x.see(0, 1, 0), 1);
        due("one and the same twice counts twice", x.see(0, 1, 0), 2);
    }

    @Says({"was turned FORWARD n times (1 .. 99)"})
    static void promise28_terms3_seen_n1To99() {
        CardBand x = woven(FOUR);
        due("see(0, 0, 0)", x.see(0, 0, 0), OUTSIDE);
        due("see(0, 1, 0)", x.see(0, 1, 0), 1);
        due("see(0, 99, 0)", x.see(0, 99, 0), 2);
        due("see(0, 100, 0)", x.see(0, 100, 0), OUTSIDE);
        due("see(0, -1, 0)", x.see(0, -1, 0), OUTSIDE);
        due("see(0, MIN, 0)", x.see(0, MIN, 0), OUTSIDE);
        due("see(0, MAX, 0)", x.see(0, MAX, 0), OUTSIDE);
    }

    @Says({"UNKNOWN (the CARD, the COLOUR), OUTSIDE, FULL (8)."})
    static void promise28_see_unknownCardsAndColours() {
        CardBand x = woven(FOUR);
        due("see(-1, 1, 0)", x.see(-1, 1, 0), UNKNOWN);
        due("see(3, 1, 0)", x.see(3, 1, 0), 1);
        due("see(4, 1, 0)", x.see(4, 1, 0), UNKNOWN);
        due("see(MIN, 1, 0)", x.see(MIN, 1, 0), UNKNOWN);
        due("see(MAX, 1, 0)", x.see(MAX, 1, 0), UNKNOWN);
        due("see(0, 1, -1)", x.see(0, 1, NONE), UNKNOWN);
        due("see(0, 1, 3)", x.see(0, 1, 3), 2);
        due("see(0, 1, 4)", x.see(0, 1, 4), UNKNOWN);
        due("see(0, 1, MIN)", x.see(0, 1, MIN), UNKNOWN);
        due("see(0, 1, MAX)", x.see(0, 1, MAX), UNKNOWN);
        due("a colour that the card has not may be told", x.see(3, 1, 3), 3);
    }

    @Says({"UNKNOWN (the CARD, the COLOUR), OUTSIDE, FULL (8).",
        "REFUSALS, of several the first in this order: UNKNOWN (a CARD, PACK, COLOUR, IMAGE that there is not; bits of such; "
        + "one twice, where two are asked), OUTSIDE (another number out of its bounds), NOT (not now, as told), FULL."})
    static void promise28_see_unknownThenOutsideThenFull() {
        CardBand x = made(SeenEdgesTest::seen8);
        due("card, n, full", x.see(4, 0, 0), UNKNOWN);
        due("colour, n, full", x.see(0, 100, 4), UNKNOWN);
        due("card, full", x.see(4, 1, 0), UNKNOWN);
        due("n, full", x.see(0, 0, 0), OUTSIDE);
        due("n, full", x.see(0, 100, 0), OUTSIDE);
        due("full", x.see(0, 1, 0), FULL);
        due("no loom, n", new CardBand().see(0, 0, 0), UNKNOWN);
    }

    @Says({"UNKNOWN (the CARD, the COLOUR), OUTSIDE, FULL (8).", "What is refused changes nothing."})
    static void promise28_see_refusedChangesNothing() {
        refused("see(4, 1, 0)", x -> x.see(4, 1, 0), UNKNOWN);
        refused("see(0, 1, 4)", x -> x.see(0, 1, 4), UNKNOWN);
        refused("see(0, 0, 0)", x -> x.see(0, 0, 0), OUTSIDE);
        refused("a ninth", SeenEdgesTest::seen8, x -> x.see(0, 1, 2), FULL);
    }

    // ---- promise 29

    private static int shownFrom(int[] holes, int hole, int turns) {
        return holes[(hole + turns - 1) % 4];
    }

    private static String told(int[] holes) {
        return "c" + holes[0] + " " + holes[1] + " " + holes[2] + " " + holes[3] + " 0;";
    }

    @Says({"a CARD of COLOURS as a CARD told here, which stood at an unknown HOLE, was turned FORWARD n times (1 .. 99): "
        + "it SHOWED a COLOUR then. HOLES (a SET) by which all that is SEEN of it is so"})
    static void promise29_terms3_holes_ofAllCardsOfThreeColours() {
        for (int card = 0; card < 81; card++) {
            int[] holes = {card % 3, card / 3 % 3, card / 9 % 3, card / 27};
            for (int turns = 1; turns <= 5; turns++) {
                for (int colour = 0; colour < 3; colour++) {
                    CardBand x = woven("l3;" + told(holes));
                    x.see(0, turns, colour);
                    int want = 0;
                    for (int hole = 0; hole < 4; hole++) {
                        want += shownFrom(holes, hole, turns) == colour ? 1 << hole : 0;
                    }
                    due("card " + card + " behind " + turns + " showed " + colour, x.holes(0), want);
                }
            }
        }
    }

    @Says({"was turned FORWARD n times (1 .. 99)"})
    static void promise29_terms3_holes_turned1To99Times() {
        for (int turns = 1; turns <= 99; turns++) {
            CardBand x = woven("l4;c0 1 2 3 0;");
            x.see(0, turns, 0);
            due("0 behind " + turns, x.holes(0), 1 << (101 - turns) % 4);
        }
    }

    @Says({"by which all that is SEEN of it is so"})
    static void promise29_terms3_holes_allThatIsSeen() {
        CardBand x = woven("l4;c0 1 0 2 0;c0 1 0 2 0;");
        due("nothing seen: any hole", x.holes(0), 15);
        x.see(0, 1, 0);
        due("0 at holes 0 and 2", x.holes(0), 5);
        due("of the other card nothing", x.holes(1), 15);
        x.see(0, 1, 0);
        due("the same again", x.holes(0), 5);
        x.see(1, 2, 2);
        due("the other card", x.holes(1), 4);
        due("the first card still", x.holes(0), 5);
        x.see(0, 4, 2);
        due("2 behind four: hole 0", x.holes(0), 1);
        x.see(0, 1, 1);
        due("none by which all is so", x.holes(0), 0);
        x.tear();
        due("torn: any hole", x.holes(0), 15);
    }

    @Says({"which stood at an unknown HOLE"})
    static void promise29_terms3_holes_whereTheCardStandsIsNotAsked() {
        CardBand x = woven(FOUR);
        x.see(0, 1, 1);
        due("hole 1", x.holes(0), 2);
        x.shift(0, 3);
        x.pick(1, 2);
        x.flip(0);
        due("turned, shifted, flipped", x.holes(0), 2);
        x.see(0, 99, 3);
        due("99 times from hole 1", x.holes(0), 2);
        due("a colour that it has not", made(y -> {
            loomOf(y, FOUR);
            y.see(3, 1, 3);
        }).holes(3), 0);
    }

    @Says({"HOLES. UNKNOWN."})
    static void promise29_holes_unknownCards() {
        CardBand x = woven(FOUR);
        due("holes(-1)", x.holes(-1), UNKNOWN);
        due("holes(3)", x.holes(3), 15);
        due("holes(4)", x.holes(4), UNKNOWN);
        due("holes(MIN)", x.holes(MIN), UNKNOWN);
        due("holes(MAX)", x.holes(MAX), UNKNOWN);
    }

    @Says({"HOLES. UNKNOWN.", "What is refused changes nothing."})
    static void promise29_holes_refusedChangesNothing() {
        refused("holes(4)", x -> x.holes(4), UNKNOWN);
        refused("holes(-1)", x -> x.holes(-1), UNKNOWN);
    }

    // ---- promise 30

    private static int greatestPart(int[] holes, int set, int turns) {
        int greatest = 0;
        for (int colour = 0; colour < 4; colour++) {
            int part = 0;
            for (int hole = 0; hole < 4; hole++) {
                part += (set >> hole & 1) == 1 && shownFrom(holes, hole, turns) == colour ? 1 : 0;
            }
            greatest = Math.max(greatest, part);
        }
        return greatest;
    }

    private static int bestLook(int[] holes, int set) {
        int best = NONE;
        for (int turns = 4; turns >= 1; turns--) {
            boolean parts = greatestPart(holes, set, turns) < Integer.bitCount(set);
            if (parts && (best == NONE || greatestPart(holes, set, turns) <= greatestPart(holes, set, best))) {
                best = turns;
            }
        }
        return best;
    }

    @Says({"LOOK AT: how many times (1 .. 4) turned it tells most: the greatest part of these HOLES that is alike is least; "
        + "of like ones the least; NONE: none parts them."})
    static void promise30_terms3_lookAt_ofAllCardsOfFourColours() {
        for (int card = 0; card < 256; card++) {
            int[] holes = {card & 3, card >> 2 & 3, card >> 4 & 3, card >> 6};
            for (int seen = 0; seen < 25; seen++) {
                CardBand x = woven("l4;" + told(holes));
                for (int rest = seen; rest > 0; rest /= 5) {
                    if (rest % 5 > 0) {
                        x.see(0, rest % 5, shownFrom(holes, 2, rest % 5));
                    }
                }
                due("card " + card + ", seen " + seen, x.lookAt(0), bestLook(holes, x.holes(0)));
            }
        }
    }

    @Says({"how many times (1 .. 4)", "of like ones the least"})
    static void promise30_terms3_lookAt_1To4() {
        CardBand x = woven("l4;c0 1 2 3 0;c0 0 0 1 0;c0 0 0 0 0;");
        due("all unlike", x.lookAt(0), 1);
        due("three and one", x.lookAt(1), 1);
        due("all alike", x.lookAt(2), NONE);
        x.see(1, 1, 0);
        due("holes 0, 1, 2 of 0 0 0 1: twice", x.lookAt(1), 2);
        x.see(1, 2, 0);
        due("holes 0, 1 of 0 0 0 1: three times", x.lookAt(1), 3);
        CardBand y = woven("l2;c1 0 0 0 0;");
        y.see(0, 1, 0);
        due("holes 1, 2, 3 of 1 0 0 0: twice", y.lookAt(0), 2);
        y.see(0, 4, 0);
        due("holes 2, 3: twice", y.lookAt(0), 2);
        CardBand z = woven("l2;c0 0 1 0 0;");
        z.see(0, 1, 0);
        due("holes 0, 1, 3 of 0 0 1 0: twice", z.lookAt(0), 2);
        z.see(0, 2, 0);
        due("holes 0, 3: three times", z.lookAt(0), 3);
    }

    @Says({"how many times (1 .. 4)"})
    static void promise30_terms3_lookAt_4IsNeverTheOnlyOne() {
        // two holes that only four turns part do not exist: a card of like colours at 1, 2 and 3 turns has them at 4
        CardBand x = woven("l3;c0 1 0 2 0;");
        x.see(0, 1, 0);
        due("holes 0 and 2 of 0 1 0 2: twice", x.lookAt(0), 2);
        x.see(0, 2, 1);
        due("hole 0 alone", x.lookAt(0), NONE);
    }

    @Says({"NONE: none parts them."})
    static void promise30_terms3_lookAt_noneNonePartsThem() {
        CardBand x = woven("l2;c0 1 0 1 0;c0 0 0 0 0;c0 1 1 0 0;");
        due("two and two", x.lookAt(0), 1);
        x.see(0, 1, 0);
        due("holes 0 and 2 of 0 1 0 1 are alike for ever", x.lookAt(0), NONE);
        due("all alike", x.lookAt(1), NONE);
        x.see(2, 1, 0);
        x.see(2, 2, 1);
        due("one hole", x.lookAt(2), NONE);
        x.see(2, 1, 1);
        due("no hole", x.lookAt(2), NONE);
        x.tear();
        due("all holes again", x.lookAt(2), 1);
    }

    @Says({"LOOK AT; NONE. UNKNOWN."})
    static void promise30_lookAt_unknownCards() {
        CardBand x = woven(FOUR);
        due("lookAt(-1)", x.lookAt(-1), UNKNOWN);
        due("lookAt(3)", x.lookAt(3), 1);
        due("lookAt(4)", x.lookAt(4), UNKNOWN);
        due("lookAt(MIN)", x.lookAt(MIN), UNKNOWN);
        due("lookAt(MAX)", x.lookAt(MAX), UNKNOWN);
    }

    @Says({"LOOK AT; NONE. UNKNOWN.", "What is refused changes nothing."})
    static void promise30_lookAt_refusedChangesNothing() {
        refused("lookAt(4)", x -> x.lookAt(4), UNKNOWN);
        refused("lookAt(-1)", x -> x.lookAt(-1), UNKNOWN);
    }

    // ---- promise 31

    @Says({"THE BOOK (20 at most) tells what CARDS SHOW", "An entry behind THE BOOK (a COLOUR, or NONE): how many."})
    static void promise31_write_20AtMost() {
        CardBand x = woven(FOUR);
        for (int i = 1; i <= 20; i++) {
            due("no. " + i, x.write(i % 4, i % 5 - 1), i);
        }
        due("the 21st", x.write(0, 0), FULL);
        due("the 21st, NONE", x.write(0, NONE), FULL);
        due("entries", x.told(12), 20);
        x.tear();
        due("room again", x.write(0, 0), 1);
    }

    @Says({"(a COLOUR, or NONE): how many. UNKNOWN, FULL (20)."})
    static void promise31_write_unknownCardsAndColours() {
        CardBand x = woven(FOUR);
        due("write(-1, 0)", x.write(-1, 0), UNKNOWN);
        due("write(3, 0)", x.write(3, 0), 1);
        due("write(4, 0)", x.write(4, 0), UNKNOWN);
        due("write(4, NONE)", x.write(4, NONE), UNKNOWN);
        due("write(MIN, 0)", x.write(MIN, 0), UNKNOWN);
        due("write(MAX, 0)", x.write(MAX, 0), UNKNOWN);
        due("write(0, -2)", x.write(0, -2), UNKNOWN);
        due("write(0, NONE)", x.write(0, NONE), 2);
        due("write(0, 3)", x.write(0, 3), 3);
        due("write(0, 4)", x.write(0, 4), UNKNOWN);
        due("write(0, MIN)", x.write(0, MIN), UNKNOWN);
        due("write(0, MAX)", x.write(0, MAX), UNKNOWN);
    }

    @Says({"UNKNOWN, FULL (20)."})
    static void promise31_write_unknownComesAheadOfFull() {
        CardBand x = made(SeenEdgesTest::book20);
        due("card, full", x.write(4, 0), UNKNOWN);
        due("colour, full", x.write(0, 4), UNKNOWN);
        due("full", x.write(0, 3), FULL);
    }

    @Says({"UNKNOWN, FULL (20).", "What is refused changes nothing."})
    static void promise31_write_refusedChangesNothing() {
        refused("write(4, 0)", x -> x.write(4, 0), UNKNOWN);
        refused("write(0, 4)", x -> x.write(0, 4), UNKNOWN);
        refused("write(0, -2)", x -> x.write(0, -2), UNKNOWN);
        refused("the 21st", SeenEdgesTest::book20, x -> x.write(0, 0), FULL);
    }

    // ---- promise 32

    @Says({"WRONG: the first that is otherwise now; NONE.", "WRONG; NONE."})
    static void promise32_judge_theFirstThatIsOtherwise() {
        for (int wrong = 0; wrong < 20; wrong++) {
            CardBand x = woven(FOUR);
            x.pick(4, 1);
            for (int i = 0; i < 20; i++) {
                x.write(i % 3, i == wrong || i == 19 ? 2 : x.card(i % 3, 7));
            }
            due("entry " + wrong, x.judge(), wrong);
        }
        CardBand y = made(SeenEdgesTest::book20);
        due("all twenty are so", y.judge(), NONE);
        y.pick(3, 1);
        due("card 1 shows a colour now", y.judge(), 1);
        y.undo(1);
        due("undone, so again", y.judge(), NONE);
    }

    @Says({"that is otherwise now", "WRONG; NONE."})
    static void promise32_judge_noneAndColours() {
        CardBand x = woven(FOUR);
        due("no book", x.judge(), NONE);
        x.write(3, NONE);
        due("shows nothing, NONE is told", x.judge(), NONE);
        x.write(3, 0);
        due("shows nothing, a colour is told", x.judge(), 1);
        x.tear();
        x.pick(1, 1);
        x.write(0, NONE);
        due("shows a colour, NONE is told", x.judge(), 0);
        x.tear();
        x.write(0, 0);
        due("shows 0", x.judge(), NONE);
        x.write(0, 1);
        due("not 1 as well", x.judge(), 1);
        x.pick(1, 1);
        due("now the other one", x.judge(), 0);
        due("no loom", new CardBand().judge(), NONE);
    }

    // ---- promise 33

    @Says({"Nothing SEEN, no BOOK: how much both had."})
    static void promise33_tear_howMuchBothHad() {
        CardBand x = woven(FOUR);
        due("nothing", x.tear(), 0);
        for (int i = 0; i < 21; i++) {
            x.see(0, 1, 0);
            x.write(0, 0);
        }
        due("8 and 20", x.tear(), 28);
        due("nothing any more", x.tear(), 0);
        due("seen", x.told(11), 0);
        due("book", x.told(12), 0);
        due("holes(0)", x.holes(0), 15);
        due("judge()", x.judge(), NONE);
        x.see(0, 1, 0);
        due("seen alone", x.tear(), 1);
        x.write(0, 0);
        x.write(0, 1);
        due("a book alone", x.tear(), 2);
        due("no loom", new CardBand().tear(), 0);
    }

    @Says({"Nothing SEEN, no BOOK"})
    static void promise33_tear_nothingElse() {
        Deed without = x -> {
            loomOf(x, FOUR);
            x.pick(4, 2);
            x.keep(0);
            x.flip(0);
            x.seed(8);
            x.feed('l');
        };
        alike("behind tear()", x -> {
            without.on(x);
            x.see(0, 1, 1);
            x.write(1, 1);
            x.tear();
        }, without, true);
    }
}
