/** Promises 10 to 15 at their edges: picks, flips, shifts, yarn bought, draws, what is undone. */
public final class DeedsEdgesTest extends Edge {
    private static final String ONE = "l1;c0 0 0 0 0;k1;y0 999;";

    public static void main(String[] args) {
        run(DeedsEdgesTest.class);
    }

    // ---- promise 10

    @Says({"n PICKS (1 .. 30) by the same MOVES (0 .. 80; figures of PACKS that there are not: 0): PICKS."})
    static void promise10_pick_n1To30() {
        CardBand x = woven(FOUR);
        due("pick(1, 0)", x.pick(1, 0), OUTSIDE);
        due("pick(1, 1)", x.pick(1, 1), 1);
        due("pick(1, 30)", x.pick(1, 30), 31);
        due("twist", x.card(0, 6), 130);
        due("pick(1, 31)", x.pick(1, 31), OUTSIDE);
        due("pick(1, -1)", x.pick(1, -1), OUTSIDE);
        due("pick(1, MIN)", x.pick(1, MIN), OUTSIDE);
        due("pick(1, MAX)", x.pick(1, MAX), OUTSIDE);
        due("picks", x.told(4), 31);
    }

    @Says({"(0 .. 80; figures of PACKS that there are not: 0)"})
    static void promise10_pick_moves0To80() {
        CardBand x = woven("l1;" + "c0 0 0 0 0;".repeat(4) + "k1;k2;k4;k8;");
        due("pick(-1, 1)", x.pick(-1, 1), OUTSIDE);
        due("pick(0, 1)", x.pick(0, 1), 1);
        due("pick(80, 1)", x.pick(80, 1), 2);
        due("pick(81, 1)", x.pick(81, 1), OUTSIDE);
        due("pick(MIN, 1)", x.pick(MIN, 1), OUTSIDE);
        due("pick(MAX, 1)", x.pick(MAX, 1), OUTSIDE);
    }

    @Says({"figures of PACKS that there are not: 0"})
    static void promise10_pick_figuresOfPacksThatThereAreNot() {
        int bound = 1;
        String packs = "";
        for (int count = 0; count < 4; count++) {
            CardBand x = woven("l1;" + "c0 0 0 0 0;".repeat(8) + packs);
            due("the greatest of " + count + " packs", x.pick(bound - 1, 1), 1);
            due("one more with " + count + " packs", x.pick(bound, 1), OUTSIDE);
            due("80 with " + count + " packs", x.pick(80, 1), OUTSIDE);
            due("27 with " + count + " packs", x.pick(27, 1), OUTSIDE);
            bound *= 3;
            packs = packs + "k" + (1 << count) + ";";
        }
    }

    @Says({"NOT: no LOOM"})
    static void promise10_pick_notNoLoom() {
        due("pick(0, 1)", new CardBand().pick(0, 1), NOT);
        due("pick(0, 30)", new CardBand().pick(0, 30), NOT);
        due("with colours alone there is one", woven("l1;").pick(0, 30), 30);
    }

    @Says({"YARN does not do for all"})
    static void promise10_pick_notYarnDoesNotDoForAll() {
        CardBand x = woven("l2;c0 0 0 1 0;k1;y0 3;y1 0;");
        due("three do", x.pick(1, 3), 3);
        due("yarn(0)", x.yarn(0), 0);
        due("none is left", x.pick(1, 1), NOT);
        due("back, too", x.pick(2, 1), NOT);
        due("not turned, it does", x.pick(0, 1), 4);
        CardBand y = woven("l2;c0 0 0 1 0;k1;y0 3;y1 0;");
        due("the fourth does not", y.pick(1, 4), NOT);
        due("none was made", y.told(4), 0);
        CardBand z = woven("l1;c0 0 0 0 0;c0 0 0 0 0;c0 0 0 0 0;k3;k4;y0 2;");
        due("two cards of a pack, a third one", z.pick(4, 1), NOT);
        due("two cards", z.pick(1, 1), 1);
        due("none for one", z.pick(3, 1), NOT);
    }

    @Says({"a TWIST would be beyond 99"})
    static void promise10_pick_notTwistBeyond99() {
        CardBand x = woven("l1;c0 0 0 0 0;c0 0 0 0 0;k1;k2;y0 999;");
        x.pick(7, 30);
        x.pick(7, 30);
        x.pick(7, 30);
        due("to 100", x.pick(7, 10), NOT);
        due("to 99", x.pick(7, 9), 99);
        due("forward from 99", x.pick(1, 1), NOT);
        due("back from -99", x.pick(6, 1), NOT);
        due("one of two is beyond", x.pick(4, 1), NOT);
        due("the other of two is beyond", x.pick(8, 1), NOT);
        due("not turned", x.pick(0, 1), 100);
        due("both nearer", x.pick(5, 1), 101);
        due("and to 99 again", x.pick(7, 1), 102);
    }

    @Says({"YARN does not do for all, a TWIST would be beyond 99"})
    static void promise10_pick_notByEachOfEightCards() {
        for (int c = 0; c < 8; c++) {
            String cards = "c0 0 0 0 0;".repeat(c) + "c1 1 1 1 0;" + "c0 0 0 0 0;".repeat(7 - c);
            CardBand x = woven("l2;" + cards + "k" + (1 << c) + ";y1 0;");
            due("no yarn for card " + c, x.pick(1, 1), NOT);
            x.buy(1, 99);
            x.pick(1, 30);
            x.pick(1, 30);
            x.pick(1, 30);
            due("card " + c + " to 100", x.pick(1, 10), NOT);
            due("card " + c + " to 99", x.pick(1, 9), 99);
            x.buy(1, 99);
            due("card " + c + " beyond 99", x.pick(1, 1), NOT);
            due("card " + c + " back", x.pick(2, 1), 100);
        }
    }

    @Says({"(nothing is done then)"})
    static void promise10_pick_notNothingIsDoneThen() {
        refused("pick(1, 30) with yarn for some of them", x -> {
            loomOf(x, "l2;c0 0 0 1 0;c0 1 0 0 1;k1;k2;y1 4;");
            x.pick(6, 3);
            x.keep(1);
            x.pick(3, 3);
        }, x -> x.pick(1, 30), NOT);
        refused("pick(1, 30) beyond the twist", x -> {
            loomOf(x, ONE);
            x.pick(1, 30);
            x.pick(1, 30);
            x.pick(1, 30);
        }, x -> x.pick(1, 10), NOT);
        refused("pick(0, 1) without a loom", x -> x.seed(3), x -> x.pick(0, 1), NOT);
    }

    private static void picks(CardBand x, int count) {
        loomOf(x, "l1;c0 0 0 0 0;k1;y0 0;");
        rest(x, count);
    }

    private static void picks9001(CardBand x) {
        picks(x, 9001);
    }

    @Says({"FULL: PICKS are above 9000 (as it is called)"})
    static void promise10_pick_full9000() {
        CardBand x = made(y -> picks(y, 9000));
        due("picks", x.told(4), 9000);
        due("at 9000", x.pick(0, 1), 9001);
        due("at 9001", x.pick(0, 1), FULL);
        x.undo(1);
        due("at 9000 again", x.pick(0, 30), 9030);
        due("at 9030", x.pick(0, 30), FULL);
        x = made(y -> picks(y, 8999));
        due("at 8999", x.pick(0, 30), 9029);
        due("at 9029", x.pick(0, 1), FULL);
    }

    @Says({"OUTSIDE, NOT: no LOOM"})
    static void promise10_pick_outsideComesAheadOfNot() {
        due("no loom, n", new CardBand().pick(0, 0), OUTSIDE);
        due("no loom, moves", new CardBand().pick(81, 1), OUTSIDE);
        due("no loom, no packs", new CardBand().pick(1, 1), OUTSIDE);
        CardBand x = woven("l1;c0 0 0 0 0;k1;y0 0;");
        due("no yarn, n", x.pick(1, 31), OUTSIDE);
        due("no yarn, moves", x.pick(3, 1), OUTSIDE);
    }

    @Says({"FULL: PICKS are above 9000",
        "REFUSALS, of several the first in this order: UNKNOWN (a CARD, PACK, COLOUR, IMAGE that there is not; bits of such; "
        + "one twice, where two are asked), OUTSIDE (another number out of its bounds), NOT (not now, as told), FULL."})
    static void promise10_pick_outsideAndNotComeAheadOfFull() {
        CardBand x = made(DeedsEdgesTest::picks9001);
        due("full alone", x.pick(0, 1), FULL);
        due("n", x.pick(0, 31), OUTSIDE);
        due("moves", x.pick(3, 1), OUTSIDE);
        due("no yarn", x.pick(1, 1), NOT);
        x.buy(0, 1);
        due("full, there is yarn", x.pick(1, 1), FULL);
        due("no yarn for two", x.pick(1, 2), NOT);
    }

    @Says({"OUTSIDE, NOT: no LOOM", "FULL: PICKS are above 9000", "What is refused changes nothing."})
    static void promise10_pick_refusedChangesNothing() {
        refused("pick(9, 1)", x -> x.pick(9, 1), OUTSIDE);
        refused("pick(1, 0)", x -> x.pick(1, 0), OUTSIDE);
        refused("pick(1, 31)", x -> x.pick(1, 31), OUTSIDE);
        refused("pick(0, 30) when full", DeedsEdgesTest::picks9001, x -> x.pick(0, 30), FULL);
        refused("pick(1, 1) without yarn when full", DeedsEdgesTest::picks9001, x -> x.pick(1, 1), NOT);
    }

    // ---- promise 11

    @Says({"FLIPPED: S. UNKNOWN."})
    static void promise11_flip_unknownCards() {
        CardBand x = woven(FOUR);
        due("flip(-1)", x.flip(-1), UNKNOWN);
        due("flip(0)", x.flip(0), 1);
        due("flip(3)", x.flip(3), 0);
        due("flip(4)", x.flip(4), UNKNOWN);
        due("flip(MIN)", x.flip(MIN), UNKNOWN);
        due("flip(MAX)", x.flip(MAX), UNKNOWN);
        CardBand eight = woven("l1;" + "c0 0 0 0 0;".repeat(8));
        due("flip(7) of eight", eight.flip(7), 1);
        due("flip(8) of eight", eight.flip(8), UNKNOWN);
    }

    @Says({"FLIPPED: S. UNKNOWN.", "What is refused changes nothing."})
    static void promise11_flip_refusedChangesNothing() {
        refused("flip(4)", x -> x.flip(4), UNKNOWN);
        refused("flip(-1)", x -> x.flip(-1), UNKNOWN);
    }

    // ---- promise 12

    @Says({"SHIFTED (n 0 .. 3): the HOLE where it stands. UNKNOWN, OUTSIDE."})
    static void promise12_shift_n0To3() {
        CardBand x = woven(FOUR);
        due("shift(0, -1)", x.shift(0, -1), OUTSIDE);
        due("shift(0, 0)", x.shift(0, 0), 0);
        due("shift(0, 3)", x.shift(0, 3), 3);
        due("shift(0, 4)", x.shift(0, 4), OUTSIDE);
        due("shift(0, MIN)", x.shift(0, MIN), OUTSIDE);
        due("shift(0, MAX)", x.shift(0, MAX), OUTSIDE);
        due("hole", x.card(0, 5), 3);
        due("two deeds", x.told(13), 2);
    }

    @Says({"UNKNOWN, OUTSIDE."})
    static void promise12_shift_unknownCards() {
        CardBand x = woven(FOUR);
        due("shift(-1, 1)", x.shift(-1, 1), UNKNOWN);
        due("shift(3, 1)", x.shift(3, 1), 1);
        due("shift(4, 1)", x.shift(4, 1), UNKNOWN);
        due("shift(MIN, 1)", x.shift(MIN, 1), UNKNOWN);
        due("shift(MAX, 1)", x.shift(MAX, 1), UNKNOWN);
    }

    @Says({"UNKNOWN, OUTSIDE."})
    static void promise12_shift_unknownComesAheadOfOutside() {
        due("shift(4, 4)", woven(FOUR).shift(4, 4), UNKNOWN);
        due("shift(-1, -1)", woven(FOUR).shift(-1, -1), UNKNOWN);
        due("shift(0, 9) without a loom", new CardBand().shift(0, 9), UNKNOWN);
    }

    @Says({"UNKNOWN, OUTSIDE.", "What is refused changes nothing."})
    static void promise12_shift_refusedChangesNothing() {
        refused("shift(4, 1)", x -> x.shift(4, 1), UNKNOWN);
        refused("shift(-1, 1)", x -> x.shift(-1, 1), UNKNOWN);
        refused("shift(0, 4)", x -> x.shift(0, 4), OUTSIDE);
        refused("shift(0, -1)", x -> x.shift(0, -1), OUTSIDE);
    }

    // ---- promise 13

    @Says({"BOUGHT (n 1 .. 999): YARN. UNKNOWN, OUTSIDE."})
    static void promise13_buy_n1To999() {
        CardBand x = woven("l2;y0 0;y1 0;");
        due("buy(0, 0)", x.buy(0, 0), OUTSIDE);
        due("buy(0, 1)", x.buy(0, 1), 1);
        due("buy(1, 999)", x.buy(1, 999), 999);
        due("buy(0, 1000)", x.buy(0, 1000), OUTSIDE);
        due("buy(0, -1)", x.buy(0, -1), OUTSIDE);
        due("buy(0, MIN)", x.buy(0, MIN), OUTSIDE);
        due("buy(0, MAX)", x.buy(0, MAX), OUTSIDE);
        due("yarn(0)", x.yarn(0), 1);
        due("two deeds", x.told(13), 2);
    }

    @Says({"UNKNOWN, OUTSIDE."})
    static void promise13_buy_unknownColours() {
        CardBand x = woven(FOUR);
        due("buy(-1, 1)", x.buy(-1, 1), UNKNOWN);
        due("buy(0, 1)", x.buy(0, 1), 501);
        due("buy(3, 1)", x.buy(3, 1), 41);
        due("buy(4, 1)", x.buy(4, 1), UNKNOWN);
        due("buy(MIN, 1)", x.buy(MIN, 1), UNKNOWN);
        due("buy(MAX, 1)", x.buy(MAX, 1), UNKNOWN);
        due("buy(7, 1) of eight", woven("l8;").buy(7, 1), 501);
        due("buy(8, 1) of eight", woven("l8;").buy(8, 1), UNKNOWN);
    }

    @Says({"UNKNOWN, OUTSIDE."})
    static void promise13_buy_unknownComesAheadOfOutside() {
        due("buy(4, 0)", woven(FOUR).buy(4, 0), UNKNOWN);
        due("buy(-1, 1000)", woven(FOUR).buy(-1, 1000), UNKNOWN);
        due("buy(0, 0) without a loom", new CardBand().buy(0, 0), UNKNOWN);
    }

    @Says({"UNKNOWN, OUTSIDE.", "What is refused changes nothing."})
    static void promise13_buy_refusedChangesNothing() {
        refused("buy(4, 1)", x -> x.buy(4, 1), UNKNOWN);
        refused("buy(-1, 1)", x -> x.buy(-1, 1), UNKNOWN);
        refused("buy(0, 0)", x -> x.buy(0, 0), OUTSIDE);
        refused("buy(0, 1000)", x -> x.buy(0, 1000), OUTSIDE);
    }

    // ---- promise 14

    @Says({"n times BY DRAWS (1 .. 30): PICKS."})
    static void promise14_drift_n1To30() {
        CardBand x = woven(FOUR);
        due("drift(0)", x.drift(0), OUTSIDE);
        due("drift(1)", x.drift(1), 1);
        due("drift(30)", x.drift(30), 31);
        due("drift(31)", x.drift(31), OUTSIDE);
        due("drift(-1)", x.drift(-1), OUTSIDE);
        due("drift(MIN)", x.drift(MIN), OUTSIDE);
        due("drift(MAX)", x.drift(MAX), OUTSIDE);
    }

    @Says({"NOT: no LOOM"})
    static void promise14_drift_notNoLoom() {
        due("drift(1)", new CardBand().drift(1), NOT);
        due("drift(30)", new CardBand().drift(30), NOT);
        due("with colours alone there is one", woven("l1;").drift(30), 30);
    }

    @Says({"FULL: PICKS are above 9000 (as it is called)."})
    static void promise14_drift_full9000() {
        CardBand x = made(y -> {
            loomOf(y, "l1;");
            rest(y, 9000);
        });
        due("at 9000", x.drift(1), 9001);
        due("at 9001", x.drift(1), FULL);
        x.undo(1);
        due("at 9000 again", x.drift(30), 9030);
        due("at 9030", x.drift(30), FULL);
    }

    @Says({"OUTSIDE, NOT: no LOOM; FULL: PICKS are above 9000"})
    static void promise14_drift_outsideComesAheadOfNotAndFull() {
        due("no loom", new CardBand().drift(0), OUTSIDE);
        due("no loom", new CardBand().drift(31), OUTSIDE);
        CardBand x = made(DeedsEdgesTest::picks9001);
        due("full", x.drift(31), OUTSIDE);
        due("full", x.drift(0), OUTSIDE);
        due("full alone", x.drift(1), FULL);
    }

    @Says({"OUTSIDE, NOT: no LOOM; FULL: PICKS are above 9000", "What is refused changes nothing."})
    static void promise14_drift_refusedChangesNothing() {
        refused("drift(0)", x -> x.drift(0), OUTSIDE);
        refused("drift(31)", x -> x.drift(31), OUTSIDE);
        refused("drift(1) without a loom", x -> x.seed(3), x -> x.drift(1), NOT);
        refused("drift(30) when full", DeedsEdgesTest::picks9001, x -> x.drift(30), FULL);
    }

    /** Each time by itself on another object: its MOVES drawn here, a pick of one. */
    private static long driftByHand(CardBand x, int packs, long from, int times) {
        long seed = from;
        for (int i = 0; i < times; i++) {
            int moves = 0;
            int worth = 1;
            for (int k = 0; k < packs; k++) {
                seed = (seed * 1103515245L + 12345L) % 2147483648L;
                moves += (int) (seed / 65536 % 3) * worth;
                worth *= 3;
            }
            x.pick(moves, 1);
        }
        return seed;
    }

    private static void sameCards(String when, CardBand x, CardBand y, int cards) {
        for (int c = 0; c < cards; c++) {
            for (int what = 4; what < 9; what++) {
                due(when + ": card(" + c + ", " + what + ")", x.card(c, what), y.card(c, what));
            }
            for (int i = 0; i < 25; i++) {
                due(when + ": row(" + i + ", " + c + ")", x.row(i, c), y.row(i, c));
            }
        }
        due(when + ": all yarn", x.told(10), y.told(10));
    }

    @Says({"BY DRAWS: THE SEED (0 at first: each DRAW it becomes it times 1103515245 and 12345, left over by 2 to the 31; "
        + "the DRAW of n is it / 65536, left over by n)", "n times: PACK by PACK a DRAW of 3: its figure of MOVES"})
    static void promise14_terms3_byDraws_packByPackTheSeedGoesRound() {
        String[] packs = {"", "k5;", "k5;k2;", "k1;k2;k4;", "k1;k2;k4;k8;"};
        int[] seeds = {0, 1, 2, 65535, 65536, 1073741824, 2147483646, 2147483647};
        for (int count = 0; count < packs.length; count++) {
            for (int seed : seeds) {
                String text = "l4;c0 1 2 3 0;c3 2 1 0 1;c1 1 2 2 0;c0 0 0 1 1;" + packs[count];
                CardBand x = woven(text);
                CardBand y = woven(text);
                x.seed(seed);
                long left = driftByHand(y, count, seed, 30);
                due("drift(30)", x.drift(30), y.told(4));
                sameCards("seed " + seed + ", packs " + count, x, y, 4);
                due("the seed behind it", x.seed(0), left);
            }
        }
    }

    @Says({"a PICK, if it can be."})
    static void promise14_terms3_byDraws_withoutYarnNoPick() {
        String text = "l2;c0 1 0 1 0;k1;y0 2;y1 1;";
        CardBand x = woven(text);
        CardBand y = woven(text);
        long left = driftByHand(y, 1, 0, 30);
        int picks = y.told(4);
        due("some could be, some not", picks > 3 && picks < 30 ? 1 : 0, 1);
        due("drift(30)", x.drift(30), picks);
        sameCards("little yarn", x, y, 1);
        due("the seed was drawn for all", x.seed(0), left);
        due("yarn(0)", x.yarn(0), y.yarn(0));
    }

    @Says({"a PICK, if it can be."})
    static void promise14_terms3_byDraws_beyondTheTwistNoPick() {
        CardBand x = woven("l1;c0 0 0 0 0;k1;y0 999;");
        CardBand y = woven("l1;c0 0 0 0 0;k1;y0 999;");
        for (CardBand z : new CardBand[] {x, y}) {
            z.pick(1, 30);
            z.pick(1, 30);
            z.pick(1, 30);
            z.pick(1, 9);
        }
        long left = driftByHand(y, 1, 0, 30);
        due("drift(30)", x.drift(30), y.told(4));
        due("some could not be", y.told(4) < 129 ? 1 : 0, 1);
        sameCards("at 99", x, y, 1);
        due("the seed was drawn for all", x.seed(0), left);
    }

    // ---- promise 15

    @Says({"The n latest (1 .. 30) are undone: PICKS."})
    static void promise15_undo_n1To30() {
        CardBand x = woven(FOUR);
        x.pick(1, 30);
        x.pick(1, 1);
        due("undo(0)", x.undo(0), OUTSIDE);
        due("undo(31)", x.undo(31), OUTSIDE);
        due("undo(-1)", x.undo(-1), OUTSIDE);
        due("undo(MIN)", x.undo(MIN), OUTSIDE);
        due("undo(MAX)", x.undo(MAX), OUTSIDE);
        due("undo(1)", x.undo(1), 30);
        x.pick(1, 1);
        due("undo(30)", x.undo(30), 1);
    }

    @Says({"NOT: not so many."})
    static void promise15_undo_notNotSoMany() {
        due("none", woven(FOUR).undo(1), NOT);
        CardBand x = woven(FOUR);
        x.pick(1, 3);
        due("three of them, four", x.undo(4), NOT);
        due("three", x.undo(3), 0);
        due("none left", x.undo(1), NOT);
        x.flip(0);
        due("one of them, two", x.undo(2), NOT);
        due("one", x.undo(1), 0);
    }

    @Says({"OUTSIDE, NOT: not so many."})
    static void promise15_undo_outsideComesAheadOfNot() {
        due("undo(0)", new CardBand().undo(0), OUTSIDE);
        due("undo(31)", new CardBand().undo(31), OUTSIDE);
        due("undo(30)", new CardBand().undo(30), NOT);
    }

    @Says({"OUTSIDE, NOT: not so many.", "What is refused changes nothing."})
    static void promise15_undo_refusedChangesNothing() {
        refused("undo(0)", x -> x.undo(0), OUTSIDE);
        refused("undo(31)", x -> x.undo(31), OUTSIDE);
        refused("undo(30)", x -> x.undo(30), NOT);
        refused("undo(9)", x -> x.undo(9), NOT);
        due("eight can be undone there", made(Edge::rich).told(13), 8);
    }

    @Says({"(30 at most are kept)"})
    static void promise15_terms3_undone_30AtMostAreKept() {
        CardBand x = woven(FOUR);
        x.flip(0);
        x.pick(1, 29);
        due("thirty", x.told(13), 30);
        x.pick(1, 1);
        due("thirty of 31", x.told(13), 30);
        due("undo(30)", x.undo(30), 0);
        due("the oldest stays done", x.card(0, 4), 1);
        due("none left", x.undo(1), NOT);
        CardBand y = woven(FOUR);
        y.flip(0);
        y.pick(1, 29);
        due("all thirty", y.undo(30), 0);
        due("the oldest is undone", y.card(0, 4), 0);
    }

    @Says({"(30 at most are kept)"})
    static void promise15_terms3_undone_goesRoundPastThirty() {
        CardBand x = woven("l4;c0 1 2 3 0;k1;y0 999;y1 999;y2 999;y3 999;");
        for (int i = 0; i < 5; i++) {
            int before = x.told(4);
            x.pick(1, 13);
            due("thirteen undone", x.undo(13), before);
            due("hole", x.card(0, 5), before % 4);
            due("twist", x.card(0, 6) - 99, before);
            due("the latest row", x.row(0, 0), before == 0 ? NONE : (before - 1) % 4);
            x.pick(1, 17);
        }
        due("picks", x.told(4), 85);
        due("thirty undone one by one", x.told(13), 30);
        for (int i = 1; i <= 30; i++) {
            due("undo(1) no. " + i, x.undo(1), 85 - i);
            due("twist", x.card(0, 6) - 99, 85 - i);
        }
        due("no more", x.undo(1), NOT);
    }

    @Says({"UNDONE: the latest deeds (each PICK, flip(), shift(), buy(), each time BY DRAWS)"})
    static void promise15_terms3_undone_whatIsADeed() {
        CardBand x = woven(FOUR);
        x.pick(1, 3);
        due("each pick", x.told(13), 3);
        x.flip(0);
        due("a flip", x.told(13), 4);
        x.shift(0, 0);
        due("a shift by nothing, too", x.told(13), 5);
        x.buy(0, 999);
        x.buy(0, 999);
        due("yarn, at most already, too", x.told(13), 7);
        x.drift(4);
        due("each time by draws", x.told(13), 11);
    }

    @Says({"each time BY DRAWS"})
    static void promise15_terms3_undone_aTimeWithoutItsPickIsOneToo() {
        CardBand x = woven("l1;c0 0 0 0 0;k1;y0 0;");
        int picks = x.drift(30);
        due("fewer picks than times", picks < 30 ? 1 : 0, 1);
        due("thirty times", x.told(13), 30);
        due("undo(30)", x.undo(30), 0);
    }

    @Says({"UNDONE: the latest deeds"})
    static void promise15_terms3_undone_whatIsNoDeed() {
        CardBand x = woven(FOUR);
        x.see(0, 1, 1);
        x.write(0, 1);
        x.seed(4);
        x.feed('?');
        x.tear();
        x.see(0, 1, 2);
        x.write(0, 2);
        x.lasts(1, 0);
        x.pick(99, 1);
        x.flip(9);
        due("none", x.told(13), 0);
        x.flip(0);
        due("undo(1)", x.undo(1), 0);
        due("what was seen stays", x.told(11), 1);
        due("the book stays", x.told(12), 1);
        due("the text stays", x.told(3), 1);
        due("the seed stays", x.seed(0), 4);
    }

    @Says({"since the text or IMAGE"})
    static void promise15_terms3_undone_sinceTheTextOrImage() {
        CardBand x = woven(FOUR);
        x.pick(1, 2);
        x.keep(0);
        due("behind keep()", x.undo(1), NOT);
        x.flip(0);
        due("one since", x.undo(2), NOT);
        due("that one", x.undo(1), 2);
        x.flip(0);
        x.goBack(0);
        due("behind goBack()", x.undo(1), NOT);
        x.flip(0);
        due("one since", x.undo(1), 2);
        x.flip(0);
        loomOf(x, "l1;?");
        due("a faulty text leaves it", x.told(13), 1);
        loomOf(x, FOUR);
        due("behind a text", x.undo(1), NOT);
    }

    @Says({"all of section 2 is as ahead of them; THE SEED stays"})
    static void promise15_terms3_undone_allOfSection2() {
        Deed[] deeds = {x -> x.pick(5, 1), x -> x.pick(7, 1), x -> x.pick(0, 1), x -> x.flip(2), x -> x.shift(1, 3),
            x -> x.buy(2, 100)};
        for (int i = 0; i < deeds.length; i++) {
            Deed deed = deeds[i];
            Deed before = x -> {
                loomOf(x, FOUR);
                x.pick(4, 30);
                x.flip(1);
                x.keep(0);
                x.seed(12);
                x.pick(8, 3);
            };
            alike("deed " + i + " undone", x -> {
                before.on(x);
                deed.on(x);
                due("undo(1)", x.undo(1), 33);
            }, before, true);
        }
    }

    @Says({"all of section 2 is as ahead of them"})
    static void promise15_terms3_undone_ofAllEightCardsAndColours() {
        Deed before = x -> {
            loomOf(x, "l8;" + "c0 1 2 3 0;c4 5 6 7 1;".repeat(4) + "k3;k12;k48;k192;");
            x.keep(1);
            x.pick(40, 3);
            for (int c = 0; c < 8; c++) {
                x.shift(c, c % 4);
            }
        };
        alike("all of it undone", x -> {
            before.on(x);
            x.pick(41, 2);
            for (int c = 0; c < 8; c++) {
                x.flip(c);
                x.buy(c, 5);
            }
            x.drift(1);
            due("undo(19)", x.undo(19), 3);
            x.seed(0);
        }, before, true);
    }

    @Says({"THE SEED stays"})
    static void promise15_terms3_undone_theSeedStays() {
        CardBand x = woven(FOUR);
        x.drift(3);
        int drawn = x.seed(0);
        x.seed(drawn);
        x.undo(3);
        due("behind undo(3)", x.seed(8), drawn);
        x.drift(1);
        x.seed(9);
        x.undo(1);
        due("a seed put in is not undone", x.seed(0), 9);
    }
}
