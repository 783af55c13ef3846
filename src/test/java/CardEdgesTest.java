/** Section 2 of 'Terms' at its edges: how a card is turned, what a pick does, flips, shifts, yarn. */
public final class CardEdgesTest extends Edge {
    /** Two cards alike but for S, in packs of their own; a third one in none. */
    private static final String BOTH_WAYS = "l4;c0 1 2 3 0;c0 1 2 3 1;c3 3 3 3 0;k1;k2;";

    public static void main(String[] args) {
        run(CardEdgesTest.class);
    }

    private static void stands(String when, CardBand x, int c, int hole, int twist, int shows, int slants) {
        due(when + ": hole of card " + c, x.card(c, 5), hole);
        due(when + ": twist of card " + c, x.card(c, 6) - 99, twist);
        due(when + ": card " + c + " shows", x.card(c, 7), shows);
        due(when + ": card " + c + " slants", x.card(c, 8), slants);
    }

    @Says({"A CARD stands at a HOLE (0 at first), has a TWIST (0 at first), SHOWS a COLOUR (NONE at first), "
        + "SLANTS 0 or 1 (NONE at first)."})
    static void promise06_terms2_asItIsAtFirst() {
        CardBand x = woven(BOTH_WAYS);
        for (int c = 0; c < 3; c++) {
            stands("at first", x, c, 0, 0, NONE, NONE);
        }
    }

    @Says({"Turned FORWARD it SHOWS the COLOUR of the HOLE where it stands, then it stands at the next one (behind 3 is 0), "
        + "TWIST one more"})
    static void promise10_terms2_forward_behind3Is0() {
        CardBand x = woven(BOTH_WAYS);
        for (int n = 1; n <= 9; n++) {
            x.pick(1, 1);
            stands("forward no. " + n, x, 0, n % 4, n, (n - 1) % 4, 0);
        }
    }

    @Says({"it SLANTS as S tells (S 0: 0)"})
    static void promise10_terms2_forward_slantsAsSTells() {
        CardBand x = woven(BOTH_WAYS);
        x.pick(4, 1);
        due("S 0", x.card(0, 8), 0);
        due("S 1", x.card(1, 8), 1);
    }

    @Says({"Turned BACK it stands at the HOLE ahead (ahead of 0 is 3), then SHOWS its COLOUR, TWIST one less"})
    static void promise10_terms2_back_aheadOf0Is3() {
        CardBand x = woven(BOTH_WAYS);
        for (int n = 1; n <= 9; n++) {
            x.pick(2, 1);
            int hole = (16 - n) % 4;
            stands("back no. " + n, x, 0, hole, -n, hole, 1);
        }
    }

    @Says({"it SLANTS the other way."})
    static void promise10_terms2_back_slantsTheOtherWay() {
        CardBand x = woven(BOTH_WAYS);
        x.pick(8, 1);
        due("S 0", x.card(0, 8), 1);
        due("S 1", x.card(1, 8), 0);
    }

    @Says({"then it stands at the next one", "it stands at the HOLE ahead"})
    static void promise10_terms2_forwardAndBackShowTheSameHole() {
        CardBand x = woven(BOTH_WAYS);
        x.pick(1, 1);
        stands("forward", x, 0, 1, 1, 0, 0);
        x.pick(2, 1);
        stands("and back", x, 0, 0, 0, 0, 1);
        x.pick(2, 1);
        stands("and back again", x, 0, 3, -1, 3, 1);
        x.pick(1, 1);
        stands("and forward", x, 0, 0, 0, 3, 0);
    }

    @Says({"Not turned, it SHOWS and SLANTS as it did."})
    static void promise10_terms2_notTurned_asItDid() {
        CardBand x = woven(BOTH_WAYS);
        x.pick(0, 1);
        stands("never turned", x, 0, 0, 0, NONE, NONE);
        x.pick(2, 1);
        x.pick(0, 30);
        stands("turned once", x, 0, 3, -1, 3, 1);
        x.pick(3, 1);
        stands("another pack is turned", x, 0, 3, -1, 3, 1);
        stands("this one", x, 1, 1, 1, 0, 1);
    }

    @Says({"A PICK by MOVES (figures to the base 3, PACK 0's the lowest: 0 not turned, 1 FORWARD, 2 BACK)"})
    static void promise10_terms2_movesPack0IsTheLowestFigure() {
        int[] twists = {0, 1, -1};
        for (int moves = 0; moves < 81; moves++) {
            CardBand x = woven("l1;" + "c0 0 0 0 0;".repeat(4) + "k1;k2;k4;k8;");
            due("pick(" + moves + ", 1)", x.pick(moves, 1), 1);
            int figures = moves;
            for (int c = 0; c < 4; c++) {
                due("twist of card " + c + " by moves " + moves, x.card(c, 6) - 99, twists[figures % 3]);
                figures /= 3;
            }
        }
    }

    @Says({"PACK 0's the lowest"})
    static void promise10_terms2_packsByTheirOwnNumberNotTheirCards() {
        CardBand x = woven("l1;" + "c0 0 0 0 0;".repeat(4) + "k8;k1;");
        x.pick(1, 1);
        due("card 3 is in pack 0", x.card(3, 6), 100);
        due("card 0 is not", x.card(0, 6), 99);
        x.pick(6, 1);
        due("card 0 is in pack 1", x.card(0, 6), 98);
    }

    @Says({"all CARDS of each PACK are turned so (those of no PACK never)"})
    static void promise10_terms2_allCardsOfAPackThoseOfNoneNever() {
        CardBand x = woven("l1;" + "c0 0 0 0 0;".repeat(8) + "k165;k66;");
        x.pick(7, 3);
        int[] twists = {3, -3, 3, 0, 0, 3, -3, 3};
        for (int c = 0; c < 8; c++) {
            due("twist of card " + c, x.card(c, 6) - 99, twists[c]);
            due("row(0, " + c + ")", x.row(0, c), twists[c] == 0 ? NONE : 0);
        }
        due("yarn: six cards, three times", x.yarn(0), 482);
    }

    @Says({"YARN of each COLOUR is less by as many CARDS as were turned and SHOW it"})
    static void promise10_terms2_yarnOfWhatIsTurnedAndShown() {
        CardBand x = woven("l3;c0 1 2 2 0;c0 2 2 1 0;c1 1 1 1 0;c2 0 0 0 0;k3;k4;");
        x.pick(1, 1);
        due("two cards show 0", x.yarn(0), 498);
        due("none shows 1", x.yarn(1), 500);
        x.pick(4, 1);
        due("1 by two cards of two packs", x.yarn(1), 498);
        due("2 by one", x.yarn(2), 499);
        x.pick(3, 1);
        due("1 by the one that is turned", x.yarn(1), 497);
        due("2 is shown, not turned", x.yarn(2), 499);
        x.pick(0, 30);
        due("nothing is turned", x.told(10), 498 + 497 + 499);
        x.pick(2, 1);
        due("back: hole 1 of card 0", x.yarn(1), 496);
        due("back: hole 1 of card 1", x.yarn(2), 498);
    }

    @Says({"THE BAND gets a ROW: what all CARDS SHOW"})
    static void promise10_terms2_aRowOfAllThatCardsShow() {
        CardBand x = woven("l8;c7 6 5 4 0;c0 1 2 3 0;c3 3 3 3 0;k1;k2;");
        x.pick(1, 1);
        due("turned", x.row(0, 0), 7);
        due("not turned yet", x.row(0, 1), NONE);
        x.pick(3, 1);
        due("shows as it did", x.row(0, 0), 7);
        due("turned now", x.row(0, 1), 0);
        due("of no pack", x.row(0, 2), NONE);
        due("the row ahead stays", x.row(1, 1), NONE);
        x.flip(0);
        x.shift(0, 1);
        due("a shift gets no row", x.told(5), 2);
        x.buy(7, 1);
        due("nor does yarn", x.told(5), 2);
    }

    @Says({"(the latest 24 are kept), PICKS are one more."})
    static void promise10_terms2_theLatest24RowsAreKept() {
        CardBand x = woven("l4;c0 1 2 3 0;k1;");
        for (int n = 1; n <= 60; n++) {
            due("picks", x.pick(1, 1), n);
            due("rows behind pick " + n, x.told(5), Math.min(n, 24));
            int oldest = Math.min(n, 24) - 1;
            due("the latest row behind pick " + n, x.row(0, 0), (n - 1) % 4);
            due("the oldest row behind pick " + n, x.row(oldest, 0), (n - 1 - oldest) % 4);
            due("no row ahead of it", x.row(oldest + 1, 0), NONE);
        }
    }

    @Says({"(the latest 24 are kept)"})
    static void promise10_terms2_theLatest24RowsOfOneCallAreKept() {
        CardBand x = woven("l4;c0 1 2 3 0;k1;");
        x.pick(1, 30);
        for (int i = 0; i < 24; i++) {
            due("row(" + i + ", 0)", x.row(i, 0), (29 - i) % 4);
        }
        due("row(24, 0)", x.row(24, 0), NONE);
        x.pick(2, 25);
        for (int i = 0; i < 24; i++) {
            due("back, row(" + i + ", 0)", x.row(i, 0), (5 + i) % 4);
        }
    }

    @Says({"FLIPPED: S of a CARD is the other one."})
    static void promise11_terms2_flippedSIsTheOtherOne() {
        CardBand x = woven(BOTH_WAYS);
        x.pick(4, 1);
        due("S 0 is 1", x.flip(0), 1);
        due("S 1 is 0", x.flip(1), 0);
        stands("flipped", x, 0, 1, 1, 0, 0);
        stands("flipped", x, 1, 1, 1, 0, 1);
        x.pick(4, 1);
        due("forward, S 1", x.card(0, 8), 1);
        due("forward, S 0", x.card(1, 8), 0);
        x.pick(8, 1);
        due("back, S 1", x.card(0, 8), 0);
        due("back, S 0", x.card(1, 8), 1);
        due("flipped again", x.flip(0), 0);
        due("flipped again", x.flip(1), 1);
    }

    @Says({"SHIFTED by n: it stands n HOLES further (over 3 on from 0), nothing else."})
    static void promise12_terms2_shiftedOver3OnFrom0() {
        for (int from = 0; from < 4; from++) {
            for (int n = 0; n < 4; n++) {
                CardBand x = woven(BOTH_WAYS);
                x.pick(1, from);
                due("from " + from + " by " + n, x.shift(0, n), (from + n) % 4);
                stands("from " + from + " by " + n, x, 0, (from + n) % 4, from, from == 0 ? NONE : from - 1, from == 0 ? NONE : 0);
                due("the other card of holes", x.card(1, 5), 0);
                due("picks", x.told(4), from);
                due("all yarn", x.told(10), 2000 - from);
                due("S", x.card(0, 4), 0);
                due("colour of hole 0", x.card(0, 0), 0);
            }
        }
    }

    @Says({"BOUGHT: YARN of a COLOUR is more (999 at most)."})
    static void promise13_terms2_bought999AtMost() {
        CardBand x = woven("l3;y0 0;y1 998;y2 999;");
        due("998 and 1", x.buy(1, 1), 999);
        due("999 and 1", x.buy(1, 1), 999);
        due("999 and 999", x.buy(2, 999), 999);
        due("0 and 998", x.buy(0, 998), 998);
        due("998 and 2", x.buy(0, 2), 999);
        due("0 and 999", woven("l1;y0 0;").buy(0, 999), 999);
        due("1 and 999", woven("l1;y0 1;").buy(0, 999), 999);
    }
}
