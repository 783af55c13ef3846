/** Promises 16 to 21, 26 and 27 with their words in section 3 of 'Terms', at their edges: what is tried from now. */
public final class TriedEdgesTest extends Edge {
    /** Eight cards in four packs. */
    private static final String EIGHT = "l4;c0 1 2 3 0;c0 1 2 3 1;c0 1 2 3 0;c0 1 2 3 0;"
        + "c3 2 1 0 0;c3 2 1 0 0;c3 2 1 0 0;c3 2 1 0 0;k3;k12;k48;k192;";
    private static final String FOUR_PACKS = "l1;" + "c0 0 0 0 0;".repeat(4) + "k1;k2;k4;k8;";

    public static void main(String[] args) {
        run(TriedEdgesTest.class);
    }

    private static void at9001(CardBand x) {
        loomOf(x, FOUR);
        rest(x, 9001);
    }

    // ---- all of them

    @Says({"TRIED from now; nothing changes by it."})
    static void promise16_terms3_tried_nothingChangesByIt() {
        alike("behind all that can be tried", x -> {
            rich(x);
            for (int what = 0; what < 2; what++) {
                x.ahead(0, 9, what);
                x.lasts(7, what);
                x.lasts(0, what);
                x.untwist(what);
                x.home(what);
                x.together(5, 1, what);
                x.together(15, 1, what);
            }
            x.repeat();
            x.floats(0);
            x.alike(NONE);
            x.alike(0);
            x.shown(1);
            x.turned(0, 0);
            x.share(99, 1);
            x.share(99, NONE);
            x.plain(60, 99);
            x.holes(0);
            x.lookAt(0);
            x.judge();
            x.told(8);
        }, Edge::rich, true);
    }

    // ---- promise 16

    @Says({"AHEAD: what a CARD would SHOW at the n-th PICK (1 .. 99) from now on, if it was turned FORWARD (way 0)"})
    static void promise16_terms3_ahead_forward1To99() {
        for (int from = 0; from < 4; from++) {
            CardBand x = woven("l4;c2 0 3 1 0;k1;");
            x.shift(0, from);
            for (int n = 1; n <= 99; n++) {
                due("ahead(0, " + n + ", 0) from " + from, x.ahead(0, n, 0), x.card(0, (from + n - 1) % 4));
            }
        }
    }

    @Says({"or BACK (1) at each."})
    static void promise16_terms3_ahead_back1To99() {
        for (int from = 0; from < 4; from++) {
            CardBand x = woven("l4;c2 0 3 1 0;k1;");
            x.shift(0, from);
            for (int n = 1; n <= 99; n++) {
                due("ahead(0, " + n + ", 1) from " + from, x.ahead(0, n, 1), x.card(0, (from - n + 400) % 4));
            }
        }
    }

    @Says({"what a CARD would SHOW at the n-th PICK"})
    static void promise16_terms3_ahead_isWhatIsShownThen() {
        for (int way = 0; way < 2; way++) {
            CardBand x = woven("l4;c2 0 3 1 0;k1;y0 999;");
            CardBand y = woven("l4;c2 0 3 1 0;k1;y0 999;");
            for (int n = 1; n <= 99; n++) {
                y.pick(1 + way, 1);
                due("ahead(0, " + n + ", " + way + ")", x.ahead(0, n, way), y.card(0, 7));
            }
        }
    }

    @Says({"if it was turned"})
    static void promise16_terms3_ahead_ofNoPackWithoutYarnBeyondTheTwist() {
        CardBand x = woven("l2;c0 1 1 1 0;c1 0 0 0 0;k1;y0 500;y1 500;");
        x.pick(1, 30);
        x.pick(1, 30);
        x.pick(1, 30);
        x.pick(1, 9);
        due("twist 99, forward", x.ahead(0, 1, 0), 1);
        due("twist 99, two forward", x.ahead(0, 2, 0), 0);
        due("of no pack", x.ahead(1, 1, 0), 1);
        due("without yarn", woven("l2;c1 0 0 0 0;k1;y0 0;y1 0;").ahead(0, 1, 0), 1);
    }

    @Says({"AHEAD. UNKNOWN, OUTSIDE."})
    static void promise16_ahead_bounds() {
        CardBand x = woven(FOUR);
        due("ahead(-1, 1, 0)", x.ahead(-1, 1, 0), UNKNOWN);
        due("ahead(3, 1, 0)", x.ahead(3, 1, 0), 0);
        due("ahead(4, 1, 0)", x.ahead(4, 1, 0), UNKNOWN);
        due("ahead(MIN, 1, 0)", x.ahead(MIN, 1, 0), UNKNOWN);
        due("ahead(MAX, 1, 0)", x.ahead(MAX, 1, 0), UNKNOWN);
        due("ahead(0, 0, 0)", x.ahead(0, 0, 0), OUTSIDE);
        due("ahead(0, 1, 0)", x.ahead(0, 1, 0), 0);
        due("ahead(0, 99, 1)", x.ahead(0, 99, 1), 1);
        due("ahead(0, 100, 1)", x.ahead(0, 100, 1), OUTSIDE);
        due("ahead(0, -1, 0)", x.ahead(0, -1, 0), OUTSIDE);
        due("ahead(0, MIN, 0)", x.ahead(0, MIN, 0), OUTSIDE);
        due("ahead(0, MAX, 0)", x.ahead(0, MAX, 0), OUTSIDE);
        due("ahead(0, 1, -1)", x.ahead(0, 1, -1), OUTSIDE);
        due("ahead(0, 1, 2)", x.ahead(0, 1, 2), OUTSIDE);
        due("ahead(0, 1, MIN)", x.ahead(0, 1, MIN), OUTSIDE);
        due("ahead(0, 1, MAX)", x.ahead(0, 1, MAX), OUTSIDE);
    }

    @Says({"UNKNOWN, OUTSIDE."})
    static void promise16_ahead_unknownComesAheadOfOutside() {
        due("n", woven(FOUR).ahead(4, 0, 0), UNKNOWN);
        due("way", woven(FOUR).ahead(4, 1, 2), UNKNOWN);
        due("both, no loom", new CardBand().ahead(0, 100, 2), UNKNOWN);
    }

    @Says({"AHEAD. UNKNOWN, OUTSIDE.", "What is refused changes nothing."})
    static void promise16_ahead_refusedChangesNothing() {
        refused("ahead(4, 1, 0)", x -> x.ahead(4, 1, 0), UNKNOWN);
        refused("ahead(0, 100, 0)", x -> x.ahead(0, 100, 0), OUTSIDE);
        refused("ahead(0, 1, 2)", x -> x.ahead(0, 1, 2), OUTSIDE);
    }

    // ---- promise 17

    private static CardBand withYarn(int yarn) {
        return woven("l1;c0 0 0 0 0;k1;y0 " + yarn + ";");
    }

    @Says({"LASTS: how many PICKS (0 .. 99) by the same MOVES can be made one behind the other"})
    static void promise17_terms3_lasts_0To99() {
        due("no yarn", withYarn(0).lasts(1, 0), 0);
        due("yarn for one", withYarn(1).lasts(1, 0), 1);
        due("yarn for 98", withYarn(98).lasts(1, 0), 98);
        due("yarn for 99", withYarn(99).lasts(1, 0), 99);
        due("yarn for 100", withYarn(100).lasts(2, 0), 99);
        due("nothing turned", withYarn(0).lasts(0, 0), 99);
    }

    @Says({"till YARN of some COLOUR does not do"})
    static void promise17_terms3_lasts_tillYarnDoesNotDo() {
        CardBand x = woven("l3;c0 1 0 2 0;c0 0 1 1 0;k1;k2;y0 10;y1 10;y2 2;");
        due("pack 0: 2 lacks at the 12th", x.lasts(1, 0), 11);
        due("pack 0 back: 2 lacks at the 9th", x.lasts(2, 0), 8);
        due("pack 1", x.lasts(3, 0), 20);
        due("both: 0 lacks at the 10th", x.lasts(4, 0), 9);
        due("both: 0", x.lasts(4, 1), 0);
        due("it is as many as can be picked", x.pick(4, 9), 9);
        due("and no more", x.pick(4, 1), NOT);
        due("none now", x.lasts(4, 0), 0);
    }

    @Says({"or a TWIST would be beyond 99: how many"})
    static void promise17_terms3_lasts_tillATwistWouldBeBeyond99() {
        CardBand x = withYarn(999);
        due("from 0 to 99", x.lasts(1, 0), 99);
        x.pick(1, 1);
        due("from 1 to 99", x.lasts(1, 0), 98);
        due("from 1 to -98", x.lasts(2, 0), 99);
        x.pick(2, 3);
        due("from -2 to -99", x.lasts(2, 0), 97);
        due("from -2 to 97", x.lasts(1, 0), 99);
        CardBand y = withYarn(999);
        y.pick(1, 30);
        y.pick(1, 30);
        y.pick(1, 30);
        y.pick(1, 9);
        due("from 99", y.lasts(1, 0), 0);
        due("from 99 back", y.lasts(2, 0), 99);
    }

    @Says({"how many; the COLOUR that does not do first (of like ones the least)"})
    static void promise17_terms3_lasts_theColourOfLikeOnesTheLeast() {
        CardBand x = woven("l3;c2 2 2 2 0;c1 1 1 1 0;c0 0 0 0 0;k1;k2;k4;y0 5;y1 4;y2 4;");
        due("1 and 2 at once", x.lasts(13, 1), 1);
        due("2 alone is used", x.lasts(1, 1), 2);
        x.buy(1, 1);
        due("2 is first", x.lasts(13, 1), 2);
        x.buy(2, 1);
        due("all three at once", x.lasts(13, 1), 0);
        x.buy(0, 1);
        due("1 and 2 at once again", x.lasts(13, 1), 1);
        CardBand y = woven("l3;c2 1 2 1 0;k1;y0 0;y1 3;y2 4;");
        due("2 1 2 1 2 1 2, then 1", y.lasts(1, 1), 1);
        due("0 is at nothing, but not used", y.lasts(1, 0), 7);
    }

    @Says({"NONE (99 can be, or a TWIST alone is beyond)"})
    static void promise17_terms3_lasts_noColourIf99CanBeOrATwistAloneIsBeyond() {
        due("nothing turned", withYarn(0).lasts(0, 1), NONE);
        due("no yarn", withYarn(0).lasts(1, 1), 0);
        due("yarn for 98", withYarn(98).lasts(1, 1), 0);
        due("yarn for 99: 99 can be", withYarn(99).lasts(1, 1), NONE);
        CardBand x = withYarn(100);
        x.pick(1, 1);
        due("the twist and the yarn at once", x.lasts(1, 0), 98);
        due("yarn is left for one: the twist alone", x.lasts(1, 1), NONE);
        CardBand y = withYarn(99);
        y.pick(1, 1);
        due("98, too", y.lasts(1, 0), 98);
        due("no yarn is left: the colour", y.lasts(1, 1), 0);
        due("back 98 by yarn", y.lasts(2, 0), 98);
        due("back: the colour", y.lasts(2, 1), 0);
    }

    @Says({"OUTSIDE (MOVES as in pick())"})
    static void promise17_lasts_movesAsInPick() {
        CardBand x = woven(FOUR_PACKS);
        due("lasts(-1, 0)", x.lasts(-1, 0), OUTSIDE);
        due("lasts(0, 0)", x.lasts(0, 0), 99);
        due("lasts(80, 0)", x.lasts(80, 0), 99);
        due("lasts(81, 0)", x.lasts(81, 0), OUTSIDE);
        due("lasts(MIN, 0)", x.lasts(MIN, 0), OUTSIDE);
        due("lasts(MAX, 0)", x.lasts(MAX, 0), OUTSIDE);
        CardBand two = woven(FOUR);
        due("two packs, 8", two.lasts(8, 0), 80);
        due("two packs, 9", two.lasts(9, 0), OUTSIDE);
        CardBand none = woven("l1;c0 0 0 0 0;");
        due("no packs, 0", none.lasts(0, 0), 99);
        due("no packs, 1", none.lasts(1, 0), OUTSIDE);
    }

    @Says({"LASTS: what = 0 how many, 1 the COLOUR; NONE. OUTSIDE (MOVES as in pick()), NOT: no LOOM."})
    static void promise17_lasts_whatAndNoLoom() {
        CardBand x = woven(FOUR);
        due("lasts(0, -1)", x.lasts(0, -1), OUTSIDE);
        due("lasts(0, 2)", x.lasts(0, 2), OUTSIDE);
        due("lasts(0, MIN)", x.lasts(0, MIN), OUTSIDE);
        due("lasts(0, MAX)", x.lasts(0, MAX), OUTSIDE);
        due("no loom", new CardBand().lasts(0, 0), NOT);
        due("no loom", new CardBand().lasts(0, 1), NOT);
        due("no loom, what: OUTSIDE first", new CardBand().lasts(0, 2), OUTSIDE);
        due("no loom, moves: OUTSIDE first", new CardBand().lasts(81, 0), OUTSIDE);
        due("PICKS above 9000 are no bound here", made(TriedEdgesTest::at9001).lasts(0, 0), 99);
    }

    @Says({"OUTSIDE (MOVES as in pick()), NOT: no LOOM.", "What is refused changes nothing."})
    static void promise17_lasts_refusedChangesNothing() {
        refused("lasts(9, 0)", x -> x.lasts(9, 0), OUTSIDE);
        refused("lasts(1, 2)", x -> x.lasts(1, 2), OUTSIDE);
        refused("lasts(0, 0) without a loom", x -> x.seed(5), x -> x.lasts(0, 0), NOT);
    }

    // ---- promise 18

    @Says({"UNTWIST: the fewest PICKS by which all TWIST can be 0"})
    static void promise18_terms3_untwist_0To99() {
        CardBand x = withYarn(999);
        due("at first", x.untwist(0), 0);
        for (int n = 1; n <= 99; n++) {
            x.pick(2, 1);
            due("twist -" + n, x.untwist(0), n);
            due("forward", x.untwist(1), 1);
        }
        CardBand y = withYarn(999);
        for (int n = 1; n <= 99; n++) {
            y.pick(1, 1);
            due("twist " + n, y.untwist(0), n);
            due("back", y.untwist(1), 2);
        }
    }

    @Says({"(YARN not looked at; TWIST is alike in a PACK): how many;"})
    static void promise18_terms3_untwist_yarnNotLookedAt() {
        CardBand x = withYarn(3);
        x.pick(1, 3);
        due("no yarn is left", x.untwist(0), 3);
        due("no yarn is left, moves", x.untwist(1), 2);
        x.shift(0, 1);
        due("a shift is no twist", x.untwist(0), 3);
    }

    @Says({"MOVES of the first (each PACK that has TWIST is turned from the first PICK on)"})
    static void promise18_terms3_untwist_eachPackThatHasTwist() {
        CardBand x = woven(FOUR_PACKS);
        x.pick(1 + 2 * 3 + 2 * 27, 5);
        x.pick(1, 2);
        due("7 -5 0 -5", x.untwist(0), 7);
        due("back, forward, not, forward", x.untwist(1), 2 + 3 + 27);
        x.pick(2 + 27, 5);
        due("2 -5 0 0", x.untwist(0), 5);
        due("back, forward, not, not", x.untwist(1), 2 + 3);
        x.pick(9, 6);
        due("2 -5 6 0", x.untwist(0), 6);
        due("back, forward, back, not", x.untwist(1), 2 + 3 + 18);
        x.pick(2 + 3 + 18, 2);
        due("0 -3 4 0", x.untwist(1), 3 + 18);
    }

    @Says({"UNTWIST: what = 0 how many, 1 MOVES (0: none is needed). OUTSIDE, NOT: no LOOM."})
    static void promise18_untwist_bounds() {
        CardBand x = woven(FOUR);
        due("none is needed", x.untwist(0), 0);
        due("none is needed, moves", x.untwist(1), 0);
        due("untwist(-1)", x.untwist(-1), OUTSIDE);
        due("untwist(2)", x.untwist(2), OUTSIDE);
        due("untwist(MIN)", x.untwist(MIN), OUTSIDE);
        due("untwist(MAX)", x.untwist(MAX), OUTSIDE);
        due("no loom", new CardBand().untwist(0), NOT);
        due("no loom", new CardBand().untwist(1), NOT);
        due("no loom: OUTSIDE first", new CardBand().untwist(2), OUTSIDE);
        due("no packs", woven("l1;c0 0 0 0 0;").untwist(0), 0);
    }

    @Says({"OUTSIDE, NOT: no LOOM.", "What is refused changes nothing."})
    static void promise18_untwist_refusedChangesNothing() {
        refused("untwist(2)", x -> x.untwist(2), OUTSIDE);
        refused("untwist(-1)", x -> x.untwist(-1), OUTSIDE);
        refused("untwist(0) without a loom", x -> x.seed(5), x -> x.untwist(0), NOT);
    }

    // ---- promise 19

    @Says({"HOME: the fewest PICKS by which all CARDS of PACKS can stand at HOLE 0"})
    static void promise19_terms3_home_fromEachHole() {
        int[] counts = {0, 1, 2, 1};
        int[] moves = {0, 2, 1, 1};
        for (int hole = 0; hole < 4; hole++) {
            CardBand x = woven("l1;c0 0 0 0 0;c0 0 0 0 0;k3;");
            x.shift(0, hole);
            x.shift(1, hole);
            due("from hole " + hole, x.home(0), counts[hole]);
            due("moves from hole " + hole, x.home(1), moves[hole]);
            x.pick(x.home(1), 1);
            x.pick(x.home(1), 1);
            due("by its moves it is home", x.card(1, 5), 0);
        }
    }

    @Says({"MOVES of the first (each PACK that is not there is turned from the first PICK on; one that is 2 HOLES off FORWARD)"})
    static void promise19_terms3_home_eachPackThatIsNotThere() {
        int[] counts = {0, 1, 2, 1};
        int[] figures = {0, 2, 1, 1};
        for (int holes = 0; holes < 256; holes++) {
            CardBand x = woven(FOUR_PACKS);
            int count = 0;
            int moves = 0;
            int worth = 1;
            for (int k = 0; k < 4; k++) {
                int hole = holes >> 2 * k & 3;
                x.shift(k, hole);
                count = Math.max(count, counts[hole]);
                moves += figures[hole] * worth;
                worth *= 3;
            }
            due("home(0) from " + holes, x.home(0), count);
            due("home(1) from " + holes, x.home(1), moves);
        }
    }

    @Says({"(YARN, TWIST not looked at): how many;"})
    static void promise19_terms3_home_yarnAndTwistNotLookedAt() {
        CardBand x = withYarn(99);
        x.pick(1, 30);
        x.pick(1, 30);
        x.pick(1, 30);
        x.pick(1, 9);
        due("twist 99, no yarn, hole 3", x.home(0), 1);
        due("forward beyond 99", x.home(1), 1);
        x.shift(0, 3);
        due("hole 2", x.home(0), 2);
        due("forward, though the twist is nearer back", x.home(1), 1);
    }

    @Says({"NONE: CARDS of a PACK stand unlike."})
    static void promise19_terms3_home_noneCardsOfAPackStandUnlike() {
        CardBand x = woven(EIGHT);
        x.shift(7, 1);
        due("one card of eight", x.home(0), NONE);
        due("one card of eight, moves", x.home(1), NONE);
        x.shift(6, 1);
        due("its pack is alike", x.home(0), 1);
        x.shift(0, 2);
        due("another pack is not", x.home(0), NONE);
        x.shift(0, 2);
        due("it is", x.home(1), 54);
        x.pick(27, 4);
        due("all round", x.home(0), 1);
    }

    @Says({"all CARDS of PACKS"})
    static void promise19_terms3_home_cardsOfNoPackAreNotAsked() {
        CardBand x = woven("l1;c0 0 0 0 0;c0 0 0 0 0;c0 0 0 0 0;k2;");
        x.shift(0, 1);
        x.shift(2, 2);
        due("they stand unlike, off hole 0", x.home(0), 0);
        due("moves", x.home(1), 0);
        x.shift(1, 3);
        due("one of a pack", x.home(0), 1);
        CardBand y = woven("l1;c0 0 0 0 0;");
        y.shift(0, 1);
        due("no packs", y.home(0), 0);
        due("no cards", woven("l1;").home(0), 0);
    }

    @Says({"HOME: what = 0 how many, 1 MOVES (0: none is needed); NONE. OUTSIDE, NOT: no LOOM."})
    static void promise19_home_bounds() {
        CardBand x = woven(FOUR);
        due("none is needed", x.home(0), 0);
        due("none is needed, moves", x.home(1), 0);
        due("home(-1)", x.home(-1), OUTSIDE);
        due("home(2)", x.home(2), OUTSIDE);
        due("home(MIN)", x.home(MIN), OUTSIDE);
        due("home(MAX)", x.home(MAX), OUTSIDE);
        x.shift(0, 1);
        due("unlike, OUTSIDE all the same", x.home(2), OUTSIDE);
        due("no loom", new CardBand().home(0), NOT);
        due("no loom", new CardBand().home(1), NOT);
        due("no loom: OUTSIDE first", new CardBand().home(2), OUTSIDE);
    }

    @Says({"OUTSIDE, NOT: no LOOM.", "What is refused changes nothing."})
    static void promise19_home_refusedChangesNothing() {
        refused("home(2)", x -> x.home(2), OUTSIDE);
        refused("home(-1)", x -> x.home(-1), OUTSIDE);
        refused("home(0) without a loom", x -> x.seed(5), x -> x.home(0), NOT);
    }

    // ---- promise 20

    @Says({"TOGETHER: the fewest PICKS behind which all CARDS of a SET SHOW a COLOUR"})
    static void promise20_terms3_together_oneCardFromEachHole() {
        for (int from = 0; from < 4; from++) {
            CardBand x = woven("l4;c0 1 2 3 0;k1;");
            x.shift(0, from);
            int[] counts = {1, 2, 2, 1};
            int[] moves = {1, 1, 2, 2};
            for (int further = 0; further < 4; further++) {
                int colour = (from + further) % 4;
                due("from " + from + " to " + colour, x.together(1, colour, 0), counts[further]);
                due("from " + from + " to " + colour + ", moves", x.together(1, colour, 1), moves[further]);
            }
        }
    }

    @Says({"how many (0: they do)", "0: none is needed); NONE."})
    static void promise20_terms3_together_0TheyDo() {
        CardBand x = woven(FOUR);
        x.pick(1, 1);
        due("card 0 shows 0", x.together(1, 0, 0), 0);
        due("card 0 shows 0, moves", x.together(1, 0, 1), 0);
        due("card 2 shows 1", x.together(4, 1, 0), 0);
        due("card 0 does not show 1", x.together(5, 1, 0), 1);
        x.shift(0, 2);
        due("shifted, it shows 0 still", x.together(1, 0, 0), 0);
    }

    @Says({"A SET is a whole number, bit k for k."})
    static void promise20_terms0_together_setBitKForK() {
        CardBand x = woven("l8;c0 0 0 0 0;c1 1 1 1 0;c2 2 2 2 0;c3 3 3 3 0;c4 4 4 4 0;c5 5 5 5 0;c6 6 6 6 0;c7 7 7 7 0;k255;");
        x.pick(1, 1);
        for (int c = 0; c < 8; c++) {
            due("bit " + c, x.together(1 << c, c, 0), 0);
            due("bit " + c + ", another colour", x.together(1 << c, 7 - c, 0), NONE);
        }
    }

    @Says({"all CARDS of a SET SHOW a COLOUR"})
    static void promise20_terms3_together_theEmptySetAlwaysDoes() {
        CardBand x = woven(FOUR);
        for (int colour = 0; colour < 4; colour++) {
            due("together(0, " + colour + ", 0)", x.together(0, colour, 0), 0);
            due("together(0, " + colour + ", 1)", x.together(0, colour, 1), 0);
        }
    }

    @Says({"(YARN, TWIST not looked at)"})
    static void promise20_terms3_together_yarnAndTwistNotLookedAt() {
        CardBand x = woven("l2;c0 0 1 1 0;k1;y0 50;y1 49;");
        x.pick(1, 30);
        x.pick(1, 30);
        x.pick(1, 30);
        x.pick(1, 9);
        due("no yarn", x.told(10), 0);
        due("shows 1", x.together(1, 1, 0), 0);
        due("one back to 1 is not asked, two forward to 0", x.together(1, 0, 0), 2);
        due("forward beyond 99", x.together(1, 0, 1), 1);
    }

    @Says({"MOVES of the first by which it can be so in as many (of like ones the least"})
    static void promise20_terms3_together_ofLikeOnesTheLeast() {
        CardBand x = woven("l3;c0 1 2 0 0;c0 1 2 1 0;c0 1 1 2 0;k1;k2;k4;");
        due("0 forward or back at once", x.together(1, 0, 0), 1);
        due("forward", x.together(1, 0, 1), 1);
        due("card 1: 1 back at once", x.together(2, 1, 1), 6);
        due("card 2: 1 two forward or two back", x.together(4, 1, 0), 2);
        due("forward", x.together(4, 1, 1), 9);
        due("card 1 has time: it waits", x.together(6, 1, 1), 9);
        due("cards 0 and 1 have time for 0", x.together(3, 0, 0), 1);
        due("no time, both forward", x.together(3, 0, 1), 4);
        due("2: two back, two back, one back", x.together(7, 2, 0), 2);
        due("2: back, back, waits", x.together(7, 2, 1), 8);
    }

    @Says({"MOVES of the first by which it can be so in as many"})
    static void promise20_terms3_together_aPackThatShowsItIsNotTurned() {
        CardBand x = woven(EIGHT);
        x.pick(1, 1);
        due("pack 0 shows 0, pack 1 can at once", x.together(15, 0, 0), 1);
        due("pack 1 alone is turned", x.together(15, 0, 1), 3);
        due("packs 2 and 3 back, pack 1 forward", x.together(255, 0, 1), 3 + 18 + 54);
        due("a set of part of a pack", x.together(1 + 16, 0, 1), 18);
    }

    @Says({"0: none is needed); NONE."})
    static void promise20_terms3_together_noneItCannotBe() {
        CardBand x = woven("l3;c0 1 0 1 0;c1 0 1 0 0;c0 0 0 0 0;c0 1 0 1 0;k3;k8;");
        due("two of a pack never both", x.together(3, 0, 0), NONE);
        due("two of a pack never both, moves", x.together(3, 0, 1), NONE);
        due("a colour that it has not", x.together(1, 2, 0), NONE);
        due("of no pack, shows nothing", x.together(4, 0, 0), NONE);
        due("of no pack, shows nothing, moves", x.together(4, 0, 1), NONE);
        due("with one that can", x.together(12, 0, 0), NONE);
        due("each alone", x.together(2, 0, 0), 1);
        x.shift(1, 1);
        due("shifted, both", x.together(3, 0, 0), 1);
    }

    @Says({"all CARDS of a SET SHOW a COLOUR"})
    static void promise20_terms3_together_cardsOfAPackThatStandUnlike() {
        CardBand x = woven("l4;c0 1 2 3 0;c0 1 2 3 0;c0 1 2 3 0;k7;");
        x.shift(1, 1);
        due("never alike", x.together(3, 1, 0), NONE);
        due("those that stand alike", x.together(5, 1, 0), 2);
        x.pick(1, 1);
        due("0 1 0 shown", x.together(5, 0, 0), 0);
        due("0 1 0 shown, of all", x.together(7, 0, 0), NONE);
        due("card 1 shows 1", x.together(2, 1, 0), 0);
    }

    @Says({"UNKNOWN (the SET, the COLOUR), OUTSIDE, NOT: no LOOM."})
    static void promise20_together_unknownSet() {
        CardBand x = woven(FOUR);
        due("together(-1, 0, 0)", x.together(-1, 0, 0), UNKNOWN);
        due("together(7, 1, 0)", x.together(7, 1, 0), 2);
        due("together(15, 0, 0)", x.together(15, 0, 0), NONE);
        due("together(16, 0, 0)", x.together(16, 0, 0), UNKNOWN);
        due("together(17, 0, 0)", x.together(17, 0, 0), UNKNOWN);
        due("together(MIN, 0, 0)", x.together(MIN, 0, 0), UNKNOWN);
        due("together(MAX, 0, 0)", x.together(MAX, 0, 0), UNKNOWN);
        CardBand eight = woven(EIGHT);
        due("together(255, 0, 0) of eight", eight.together(255, 0, 0), 1);
        due("together(256, 0, 0) of eight", eight.together(256, 0, 0), UNKNOWN);
        CardBand none = woven("l1;");
        due("together(0, 0, 0) of none", none.together(0, 0, 0), 0);
        due("together(1, 0, 0) of none", none.together(1, 0, 0), UNKNOWN);
    }

    @Says({"TOGETHER: what = 0 how many, 1 MOVES; NONE. UNKNOWN (the SET, the COLOUR), OUTSIDE"})
    static void promise20_together_unknownColourAndWhatOutside() {
        CardBand x = woven(FOUR);
        due("together(1, -1, 0)", x.together(1, -1, 0), UNKNOWN);
        due("together(1, 3, 0)", x.together(1, 3, 0), 1);
        due("together(1, 4, 0)", x.together(1, 4, 0), UNKNOWN);
        due("together(1, MIN, 0)", x.together(1, MIN, 0), UNKNOWN);
        due("together(1, MAX, 0)", x.together(1, MAX, 0), UNKNOWN);
        due("together(1, 0, -1)", x.together(1, 0, -1), OUTSIDE);
        due("together(1, 0, 2)", x.together(1, 0, 2), OUTSIDE);
        due("together(1, 0, MIN)", x.together(1, 0, MIN), OUTSIDE);
        due("together(1, 0, MAX)", x.together(1, 0, MAX), OUTSIDE);
    }

    @Says({"UNKNOWN (the SET, the COLOUR), OUTSIDE, NOT: no LOOM."})
    static void promise20_together_unknownComesFirst() {
        CardBand x = woven(FOUR);
        due("set and what", x.together(16, 0, 2), UNKNOWN);
        due("colour and what", x.together(1, 4, 2), UNKNOWN);
        due("can't be and what", x.together(8, 0, 2), OUTSIDE);
        due("no loom: no colours", new CardBand().together(0, 0, 0), UNKNOWN);
        due("no loom: no colours, what", new CardBand().together(0, 0, 2), UNKNOWN);
    }

    @Says({"UNKNOWN (the SET, the COLOUR), OUTSIDE, NOT: no LOOM.", "What is refused changes nothing."})
    static void promise20_together_refusedChangesNothing() {
        refused("together(16, 0, 0)", x -> x.together(16, 0, 0), UNKNOWN);
        refused("together(1, 4, 0)", x -> x.together(1, 4, 0), UNKNOWN);
        refused("together(1, 0, 2)", x -> x.together(1, 0, 2), OUTSIDE);
    }

    // ---- promise 21

    @Says({"REPEAT: the least p (1, 2, 4) such that, all CARDS being turned FORWARD at each PICK, each would SHOW the same "
        + "at any PICK and p PICKS later."})
    static void promise21_terms3_repeat_1Or2Or4() {
        for (int holes = 0; holes < 81; holes++) {
            int[] h = {holes % 3, holes / 3 % 3, holes / 9 % 3, holes / 27};
            CardBand x = woven("l3;c" + h[0] + " " + h[1] + " " + h[2] + " " + h[3] + " 0;k1;");
            boolean two = h[0] == h[2] && h[1] == h[3];
            due("card " + holes, x.repeat(), two && h[0] == h[1] ? 1 : two ? 2 : 4);
        }
    }

    @Says({"all CARDS being turned FORWARD at each PICK"})
    static void promise21_terms3_repeat_allCardsThoseOfNoPackToo() {
        due("1 and 1", woven("l2;c0 0 0 0 0;c1 1 1 1 0;k3;").repeat(), 1);
        due("1 and 2 of no pack", woven("l2;c0 0 0 0 0;c1 0 1 0 0;k1;").repeat(), 2);
        due("2 and 4 of no pack", woven("l2;c0 1 0 1 0;c1 0 0 0 0;k1;").repeat(), 4);
        due("the last of eight", woven("l2;" + "c0 0 0 0 0;".repeat(7) + "c0 0 1 1 0;").repeat(), 4);
        due("no cards", woven("l8;").repeat(), 1);
        CardBand x = woven("l2;c0 1 0 1 0;k1;");
        x.pick(1, 3);
        x.shift(0, 1);
        due("wherever it stands", x.repeat(), 2);
    }

    @Says({"REPEAT. NOT: no LOOM."})
    static void promise21_repeat_notNoLoom() {
        due("no loom", new CardBand().repeat(), NOT);
        CardBand x = woven(FOUR);
        due("a loom", x.repeat(), 4);
        x.loom();
        due("no loom again", x.repeat(), NOT);
    }

    @Says({"REPEAT. NOT: no LOOM.", "What is refused changes nothing."})
    static void promise21_repeat_refusedChangesNothing() {
        refused("repeat() without a loom", x -> x.seed(5), x -> x.repeat(), NOT);
    }

    // ---- promise 26

    @Says({"SHARE of YARN: x (0 .. 999) spans to COLOURS by how often the HOLES of all CARDS have them: "
        + "x times so often / all HOLES (cut; 0 without CARDS); what is left over in all.", "All numbers are whole; / cuts towards 0."})
    static void promise26_terms3_share_eachXCut() {
        checkShares("l5;c0 1 2 3 0;c3 2 1 0 1;c1 1 2 2 0;c0 0 3 3 1;k5;", new int[] {4, 4, 4, 4, 0}, 16);
        checkShares("l2;c0 0 0 1 0;k1;", new int[] {3, 1}, 4);
        checkShares("l3;c0 0 0 1 0;c0 1 1 2 0;c0 0 0 0 0;", new int[] {8, 3, 1}, 12);
        checkShares("l1;" + "c0 0 0 0 0;".repeat(8), new int[] {32}, 32);
    }

    private static void checkShares(String text, int[] often, int holes) {
        CardBand band = null;
        for (int x = 0; x <= 999; x++) {
            // an object answers for 512 calls only
            band = x % 30 == 0 ? woven(text) : band;
            int left = x;
            for (int k = 0; k < often.length; k++) {
                int share = x * often[k] / holes;
                due("share(" + x + ", " + k + ")", band.share(x, k), share);
                left -= share;
            }
            due("share(" + x + ", NONE)", band.share(x, NONE), left);
        }
    }

    @Says({"0 without CARDS", "what is left over in all."})
    static void promise26_terms3_share_withoutCards() {
        CardBand x = woven("l8;");
        due("share(999, 0)", x.share(999, 0), 0);
        due("share(999, 7)", x.share(999, 7), 0);
        due("share(999, NONE)", x.share(999, NONE), 999);
        due("share(0, NONE)", x.share(0, NONE), 0);
        due("without a loom", new CardBand().share(999, NONE), 999);
        due("without a loom, a colour", new CardBand().share(999, 0), UNKNOWN);
    }

    @Says({"SHARE: k = NONE what is left over. UNKNOWN, OUTSIDE."})
    static void promise26_share_bounds() {
        CardBand x = woven(FOUR);
        due("share(-1, 0)", x.share(-1, 0), OUTSIDE);
        due("share(0, 0)", x.share(0, 0), 0);
        due("share(999, 0)", x.share(999, 0), 999 * 5 / 16);
        due("share(1000, 0)", x.share(1000, 0), OUTSIDE);
        due("share(1000, NONE)", x.share(1000, NONE), OUTSIDE);
        due("share(-1, NONE)", x.share(-1, NONE), OUTSIDE);
        due("share(MIN, 0)", x.share(MIN, 0), OUTSIDE);
        due("share(MAX, 0)", x.share(MAX, 0), OUTSIDE);
        due("share(9, -2)", x.share(9, -2), UNKNOWN);
        due("share(9, 3)", x.share(9, 3), 1);
        due("share(9, 4)", x.share(9, 4), UNKNOWN);
        due("share(9, MIN)", x.share(9, MIN), UNKNOWN);
        due("share(9, MAX)", x.share(9, MAX), UNKNOWN);
    }

    @Says({"UNKNOWN, OUTSIDE."})
    static void promise26_share_unknownComesAheadOfOutside() {
        due("share(1000, 4)", woven(FOUR).share(1000, 4), UNKNOWN);
        due("share(-1, -2)", woven(FOUR).share(-1, -2), UNKNOWN);
        due("share(-1, 0) without a loom", new CardBand().share(-1, 0), UNKNOWN);
        due("share(-1, NONE) without a loom", new CardBand().share(-1, NONE), OUTSIDE);
    }

    @Says({"UNKNOWN, OUTSIDE.", "What is refused changes nothing."})
    static void promise26_share_refusedChangesNothing() {
        refused("share(9, 4)", x -> x.share(9, 4), UNKNOWN);
        refused("share(-1, NONE)", x -> x.share(-1, NONE), OUTSIDE);
        refused("share(1000, 0)", x -> x.share(1000, 0), OUTSIDE);
    }

    // ---- promise 27

    @Says({"PLAIN: odds that n (0 .. 60) CARDS all SHOW one told COLOUR, each by q of a hundred (0 .. 100)"})
    static void promise27_terms3_plain_n0To60Q0To100() {
        CardBand x = new CardBand();
        due("plain(-1, 50)", x.plain(-1, 50), OUTSIDE);
        due("plain(0, 50)", x.plain(0, 50), 1000000000);
        due("plain(60, 100)", x.plain(60, 100), 1000000000);
        due("plain(61, 100)", x.plain(61, 100), OUTSIDE);
        due("plain(1, -1)", x.plain(1, -1), OUTSIDE);
        due("plain(1, 0)", x.plain(1, 0), 0);
        due("plain(1, 100)", x.plain(1, 100), 1000000000);
        due("plain(1, 101)", x.plain(1, 101), OUTSIDE);
        due("plain(MIN, 50)", x.plain(MIN, 50), OUTSIDE);
        due("plain(MAX, 50)", x.plain(MAX, 50), OUTSIDE);
        due("plain(1, MIN)", x.plain(1, MIN), OUTSIDE);
        due("plain(1, MAX)", x.plain(1, MAX), OUTSIDE);
    }

    @Says({"a BILLION times q / 100 each (cut)", "BILLION is 1000000000."})
    static void promise27_terms3_plain_cutAtEach() {
        CardBand x = new CardBand();
        due("plain(0, 0)", x.plain(0, 0), 1000000000);
        due("plain(1, 1)", x.plain(1, 1), 10000000);
        due("plain(4, 1)", x.plain(4, 1), 10);
        due("plain(5, 1)", x.plain(5, 1), 0);
        due("plain(1, 99)", x.plain(1, 99), 990000000);
        due("plain(5, 99)", x.plain(5, 99), 950990049);
        due("plain(5, 33): 3913539.3", x.plain(5, 33), 3913539);
        due("plain(11, 33): 5053 if cut at each, 5054 if cut once", x.plain(11, 33), 5053);
        for (int n = 0; n <= 60; n += 6) {
            for (int q = 0; q <= 100; q += 4) {
                long want = 1000000000L;
                for (int i = 0; i < n; i++) {
                    want = want * q / 100;
                }
                due("plain(" + n + ", " + q + ")", x.plain(n, q), want);
            }
        }
    }

    @Says({"PLAIN. OUTSIDE.", "What is refused changes nothing."})
    static void promise27_plain_refusedChangesNothing() {
        refused("plain(61, 0)", x -> x.plain(61, 0), OUTSIDE);
        refused("plain(0, 101)", x -> x.plain(0, 101), OUTSIDE);
    }
}
