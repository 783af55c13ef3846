/** What is read off the band, at its edges: promises 5 and 22 to 25 with their words in section 3 of 'Terms'. */
public final class BandEdgesTest extends Edge {
    private static final String[] CARDS = {
        "l4;", "l4;c0 1 2 3 0;k1;", "l4;c0 1 2 3 0;c0 1 2 3 0;k3;", "l4;c0 1 2 3 0;c0 1 2 3 0;c0 1 2 3 0;k7;",
        "l4;c0 1 2 3 0;c0 1 2 3 0;c0 1 2 3 0;c0 1 2 3 0;k15;"};

    public static void main(String[] args) {
        run(BandEdgesTest.class);
    }

    /** An object whose band has these rows, the oldest first; a row has a figure for the colour of each card. */
    private static CardBand band(String... rows) {
        CardBand x = woven(CARDS[rows[0].length()]);
        for (String row : rows) {
            weave(x, row);
        }
        return x;
    }

    private static void weave(CardBand x, String row) {
        for (int c = 0; c < row.length(); c++) {
            int colour = row.charAt(c) - '0';
            x.shift(c, (colour - x.card(c, 5) + 4) % 4);
        }
        x.pick(1, 1);
    }

    /** A band of one card: its colours, the oldest first. */
    private static CardBand stripe(String colours) {
        return band(colours.split(""));
    }

    private static int longestRun(String text) {
        int longest = 0;
        for (int from = 0; from < text.length(); from++) {
            int to = from;
            while (to < text.length() && text.charAt(to) == text.charAt(from)) {
                to++;
            }
            longest = Math.max(longest, to - from);
        }
        return longest;
    }

    private static int periodOf(String text) {
        int p = 1;
        while (!text.endsWith(text.substring(0, text.length() - p)) || !text.startsWith(text.substring(p))) {
            p++;
        }
        return p;
    }

    // ---- promise 5: MIRRORED

    @Says({"MIRRORED: how many ROWS of THE BAND read alike from both sides"})
    static void promise05_terms3_mirrored_allRowsOfUpToFourCards() {
        for (int cards = 1; cards <= 4; cards++) {
            for (int row = 0; row < 1 << cards; row++) {
                String told = Integer.toBinaryString(row + (1 << cards)).substring(1);
                boolean alike = new StringBuilder(told).reverse().toString().equals(told);
                due("row " + told, band(told).told(6), alike ? 1 : 0);
            }
        }
        due("0 1 1 3", band("0113").told(6), 0);
        due("0 1 2 0", band("0120").told(6), 0);
        due("2 1 1 2", band("2112").told(6), 1);
    }

    @Says({"how many ROWS of THE BAND"})
    static void promise05_terms3_mirrored_fromNoneTo24() {
        CardBand x = woven(CARDS[3]);
        due("no rows", x.told(6), 0);
        weave(x, "012");
        due("one that is not", x.told(6), 0);
        weave(x, "121");
        due("one of two", x.told(6), 1);
        rest(x, 22);
        due("23 of 24", x.told(6), 23);
        rest(x, 1);
        due("24 of 24, the other one is gone", x.told(6), 24);
        rest(x, 30);
        due("24 at most", x.told(6), 24);
    }

    @Says({"(all that SHOW NONE are alike)"})
    static void promise05_terms3_mirrored_allThatShowNoneAreAlike() {
        CardBand x = woven("l2;c0 1 0 1 0;c0 0 0 0 0;c0 1 0 1 0;c1 1 1 1 0;k1;k2;k4;");
        rest(x, 2);
        due("none none none none", x.told(6), 2);
        x.pick(1, 1);
        due("0 none none none", x.told(6), 2);
        CardBand y = woven("l2;c0 1 0 1 0;c0 0 0 0 0;c0 1 0 1 0;k1;k4;");
        y.pick(4, 1);
        due("0 none 0", y.told(6), 1);
        CardBand z = woven("l2;c0 0 0 0 0;c0 0 0 0 0;k1;");
        z.pick(1, 1);
        due("0 and none are not alike", z.told(6), 0);
    }

    @Says({"MIRRORED: how many ROWS of THE BAND read alike"})
    static void promise05_terms3_mirrored_rowsOfNoCards() {
        CardBand x = woven("l1;");
        rest(x, 3);
        due("rows of nothing", x.told(6), 3);
        due("no loom", new CardBand().told(6), 0);
    }

    // ---- promise 5: PERIOD

    @Says({"PERIOD: the least p (1 on) such that each ROW of THE BAND is like the one p ROWS ahead of it, if there is one"})
    static void promise05_terms3_period_ofAllStripesUpTo8Rows() {
        for (int rows = 1; rows <= 8; rows++) {
            for (int set = 0; set < 1 << rows; set++) {
                String told = Integer.toBinaryString(set + (1 << rows)).substring(1);
                due("stripe " + told, stripe(told).told(7), periodOf(told));
            }
        }
    }

    @Says({"if there is one"})
    static void promise05_terms3_period_upTo24() {
        due("24 rows, the oldest is otherwise", stripe("1" + "0".repeat(23)).told(7), 24);
        due("24 rows, the latest is otherwise", stripe("0".repeat(23) + "1").told(7), 24);
        due("24 rows, both ends alike", stripe("1" + "0".repeat(22) + "1").told(7), 23);
        due("24 rows alike", stripe("0".repeat(24)).told(7), 1);
        due("12 and 12", stripe("011111111111011111111111").told(7), 12);
        due("25 rows, the oldest of them is gone", stripe("1" + "0".repeat(24)).told(7), 1);
    }

    @Says({"is like the one p ROWS ahead of it"})
    static void promise05_terms3_period_byAllCards() {
        due("one card of two changes", band("00", "01", "00", "01").told(7), 2);
        due("one by 2, one by 3", band("00", "11", "02", "10", "01", "12", "00").told(7), 6);
        due("alike", band("0123", "0123").told(7), 1);
        due("the last card", band("0123", "0122").told(7), 2);
        CardBand x = woven(CARDS[1]);
        rest(x, 1);
        weave(x, "0");
        weave(x, "0");
        due("none 0 0", x.told(7), 3);
        CardBand y = woven("l1;");
        rest(y, 5);
        due("rows of no cards are alike", y.told(7), 1);
    }

    @Says({"0: THE BAND is empty."})
    static void promise05_terms3_period_0TheBandIsEmpty() {
        due("no rows", woven(FOUR).told(7), 0);
        due("no loom", new CardBand().told(7), 0);
        CardBand x = stripe("0");
        x.undo(1);
        due("undone", x.told(7), 0);
    }

    // ---- promise 5: LONGEST

    @Says({"LONGEST: the CARD of longest FLOAT; of like ones the least"})
    static void promise05_terms3_longest_ofLikeOnesTheLeast() {
        due("all one", band("000").told(8), 0);
        due("the last", band("000", "110").told(8), 2);
        due("the middle one", band("000", "101").told(8), 1);
        due("the last two", band("000", "100").told(8), 1);
        due("0 0 1 1 and 0 1 1 1", band("00", "01", "11", "11").told(8), 1);
        due("2 and 2", band("01", "00", "10", "11").told(8), 0);
    }

    @Says({"NONE: THE BAND is empty, no CARDS."})
    static void promise05_terms3_longest_noneTheBandIsEmptyNoCards() {
        due("the band is empty", woven(FOUR).told(8), NONE);
        CardBand x = woven("l1;");
        due("no cards, the band is empty", x.told(8), NONE);
        rest(x, 1);
        due("no cards", x.told(8), NONE);
        CardBand y = woven(FOUR);
        rest(y, 1);
        due("floats of nothing, the least card", y.told(8), 0);
        y.pick(3, 1);
        due("card 1 shows one", y.told(8), 1);
    }

    // ---- promise 5: MOST

    @Says({"MOST: the COLOUR that is SHOWN most; of like ones the least; NONE: none is SHOWN."})
    static void promise05_terms3_most_ofLikeOnesTheLeast() {
        due("1 and 2 once", band("12").told(9), 1);
        due("1 once, 2 twice", band("12", "23").told(9), 2);
        due("all four once", band("3210").told(9), 0);
        due("the last colour", band("3213").told(9), 3);
        due("2 and 3 twice, 1 once", stripe("13223").told(9), 2);
    }

    @Says({"NONE: none is SHOWN."})
    static void promise05_terms3_most_noneIsShown() {
        due("the band is empty", woven(FOUR).told(9), NONE);
        CardBand x = woven(FOUR);
        rest(x, 24);
        due("rows that show nothing", x.told(9), NONE);
        x.pick(3, 1);
        due("one colour once", x.told(9), 3);
        due("no loom", new CardBand().told(9), NONE);
    }

    @Says({"how often a COLOUR is in THE BAND"})
    static void promise05_terms3_most_inTheRowsThatAreKept() {
        due("0 three, 1 twenty-one times", stripe("000" + "1".repeat(21)).told(9), 1);
        due("2 ten, 1 fourteen of the latest 24", stripe("2".repeat(14) + "1".repeat(14)).told(9), 1);
        due("2 twelve, 1 twelve of the latest 24", stripe("2".repeat(14) + "1".repeat(12)).told(9), 1);
        due("2 thirteen, 1 eleven of the latest 24", stripe("2".repeat(14) + "1".repeat(11)).told(9), 2);
    }

    // ---- promise 22

    @Says({"FLOAT of a CARD: the most ROWS of THE BAND one behind the other in which it SHOWED one and the same COLOUR"})
    static void promise22_terms3_float_ofAllStripesUpTo7Rows() {
        for (int rows = 1; rows <= 7; rows++) {
            for (int set = 0; set < 1 << rows; set++) {
                String told = Integer.toBinaryString(set + (1 << rows)).substring(1);
                due("stripe " + told, stripe(told).floats(0), longestRun(told));
            }
        }
    }

    @Says({"the most ROWS of THE BAND one behind the other"})
    static void promise22_terms3_float_0To24() {
        due("no rows", woven(FOUR).floats(0), 0);
        due("24", stripe("2".repeat(24)).floats(0), 24);
        due("25 rows, 24 are kept", stripe("2".repeat(25)).floats(0), 24);
        due("the long one is gone in part", stripe("2".repeat(20) + "01".repeat(6)).floats(0), 12);
        due("two long ones", stripe("22201110222").floats(0), 3);
    }

    @Says({"(NONE is no COLOUR)"})
    static void promise22_terms3_float_noneIsNoColour() {
        CardBand x = woven(FOUR);
        rest(x, 5);
        due("rows in which it showed nothing", x.floats(0), 0);
        x.pick(1, 1);
        due("and one with a colour", x.floats(0), 1);
        rest(x, 2);
        due("three with a colour", x.floats(0), 3);
        due("of no pack", x.floats(3), 0);
    }

    @Says({"FLOAT. UNKNOWN."})
    static void promise22_floats_unknownCards() {
        CardBand x = woven(FOUR);
        due("floats(-1)", x.floats(-1), UNKNOWN);
        due("floats(3)", x.floats(3), 0);
        due("floats(4)", x.floats(4), UNKNOWN);
        due("floats(MIN)", x.floats(MIN), UNKNOWN);
        due("floats(MAX)", x.floats(MAX), UNKNOWN);
    }

    @Says({"FLOAT. UNKNOWN.", "What is refused changes nothing."})
    static void promise22_floats_refusedChangesNothing() {
        refused("floats(4)", x -> x.floats(4), UNKNOWN);
        refused("floats(-1)", x -> x.floats(-1), UNKNOWN);
    }

    // ---- promise 23

    @Says({"ALIKE: two CARDS that SHOWED the same in all ROWS of THE BAND (any two, if it is empty)"})
    static void promise23_terms3_alike_anyTwoIfItIsEmpty() {
        CardBand x = woven("l1;" + "c0 0 0 0 0;".repeat(8));
        due("how many of eight", x.alike(NONE), 28);
        int i = 0;
        for (int a = 0; a < 8; a++) {
            for (int b = a + 1; b < 8; b++) {
                due("alike(" + i + ")", x.alike(i), 10 * a + b);
                i++;
            }
        }
        due("alike(28)", x.alike(28), NONE);
        due("one card", woven("l1;c0 0 0 0 0;").alike(NONE), 0);
        due("two cards, unlike", woven("l2;c0 0 0 0 0;c1 1 1 1 0;").alike(0), 1);
    }

    @Says({"pairs (10 times the lesser and the other, rising): how many; the i-th; NONE."})
    static void promise23_terms3_alike_pairsRising() {
        CardBand x = band("0110");
        due("how many", x.alike(NONE), 2);
        due("0 and 3", x.alike(0), 3);
        due("1 and 2", x.alike(1), 12);
        due("no third", x.alike(2), NONE);
        CardBand y = band("1011");
        due("how many", y.alike(NONE), 3);
        due("0 and 2", y.alike(0), 2);
        due("0 and 3", y.alike(1), 3);
        due("2 and 3", y.alike(2), 23);
        due("no fourth", y.alike(3), NONE);
    }

    @Says({"that SHOWED the same in all ROWS of THE BAND"})
    static void promise23_terms3_alike_inAllRows() {
        due("in the oldest not", band("0011", "0000").alike(NONE), 2);
        due("in the latest not", band("0000", "0011").alike(NONE), 2);
        due("never two", band("0123").alike(NONE), 0);
        due("never two, the first", band("0123").alike(0), NONE);
        CardBand x = band("0123", "0000");
        rest(x, 22);
        due("24 rows", x.alike(NONE), 0);
        rest(x, 1);
        due("the one that parts them is gone", x.alike(NONE), 6);
        CardBand y = woven(FOUR);
        rest(y, 1);
        due("all showed nothing", y.alike(NONE), 6);
        y.pick(1, 1);
        due("nothing is not a colour", y.alike(NONE), 1);
        due("of no pack and not turned", y.alike(0), 13);
    }

    @Says({"ALIKE: i = NONE how many, else the i-th; NONE."})
    static void promise23_alike_anyI() {
        CardBand x = woven(FOUR);
        due("alike(-1)", x.alike(-1), 6);
        due("alike(-2)", x.alike(-2), NONE);
        due("alike(0)", x.alike(0), 1);
        due("alike(5)", x.alike(5), 23);
        due("alike(6)", x.alike(6), NONE);
        due("alike(MIN)", x.alike(MIN), NONE);
        due("alike(MAX)", x.alike(MAX), NONE);
        due("no loom", new CardBand().alike(NONE), 0);
        due("no loom, the first", new CardBand().alike(0), NONE);
    }

    @Says({"else the i-th; NONE."})
    static void promise23_alike_noneChangesNothing() {
        refused("alike(6)", x -> x.alike(6), NONE);
    }

    // ---- promise 24

    @Says({"SHOWN: how often a COLOUR is in THE BAND."})
    static void promise24_terms3_shown_inAllCardsOfAllRows() {
        CardBand x = band("0123", "0012", "0001");
        due("shown(0)", x.shown(0), 6);
        due("shown(1)", x.shown(1), 3);
        due("shown(2)", x.shown(2), 2);
        due("shown(3)", x.shown(3), 1);
        rest(x, 21);
        due("24 rows", x.shown(0), 6 + 63);
        rest(x, 1);
        due("the oldest is gone", x.shown(0), 5 + 66);
        due("3 is gone", x.shown(3), 0);
        rest(x, 30);
        due("24 rows of 0 0 0 1", x.shown(0), 72);
        due("all eight cards in 24 rows", full().shown(0), 192);
    }

    private static CardBand full() {
        CardBand x = woven("l1;" + "c0 0 0 0 0;".repeat(8) + "k255;");
        x.pick(1, 25);
        return x;
    }

    @Says({"SHOWN. UNKNOWN."})
    static void promise24_shown_unknownColours() {
        CardBand x = woven(FOUR);
        due("shown(-1)", x.shown(-1), UNKNOWN);
        due("shown(0)", x.shown(0), 0);
        due("shown(3)", x.shown(3), 0);
        due("shown(4)", x.shown(4), UNKNOWN);
        due("shown(MIN)", x.shown(MIN), UNKNOWN);
        due("shown(MAX)", x.shown(MAX), UNKNOWN);
        rest(x, 3);
        due("nothing shown is no colour", x.shown(-1), UNKNOWN);
    }

    @Says({"SHOWN. UNKNOWN.", "What is refused changes nothing."})
    static void promise24_shown_refusedChangesNothing() {
        refused("shown(4)", x -> x.shown(4), UNKNOWN);
        refused("shown(-1)", x -> x.shown(-1), UNKNOWN);
    }

    // ---- promise 25

    /** Rows in which card 0 of such holes shows hole 'first' (NONE: nothing yet), then hole 'then'. */
    private static int turnedBetween(int[] holes, int first, int then) {
        CardBand x = woven("l3;c" + holes[0] + " " + holes[1] + " " + holes[2] + " " + holes[3] + " 0;k1;");
        if (first == NONE) {
            rest(x, 1);
        } else {
            x.shift(0, first);
            x.pick(1, 1);
        }
        x.shift(0, (then - x.card(0, 5) + 4) % 4);
        x.pick(1, 1);
        return x.turned(0, 0);
    }

    private static int waysBetween(int[] holes, int x, int y) {
        boolean forward = false;
        boolean back = false;
        for (int hole = 0; hole < 4; hole++) {
            int ahead = hole == 0 ? 3 : hole - 1;
            int behind = hole == 3 ? 0 : hole + 1;
            if (holes[hole] == y) {
                forward = forward || x == NONE || x == y || x == holes[ahead];
                back = back || x == NONE || x == y || x == holes[behind];
            }
        }
        return (x == y ? 1 : 0) + (forward ? 2 : 0) + (back ? 4 : 0);
    }

    @Says({"ways (a SET) in which it may have been turned between: bit 0 not: y is like x; bit 1 FORWARD: there is a HOLE of COLOUR y, "
        + "and x is NONE, or the COLOUR of that HOLE, or of the one ahead of it; bit 2 BACK: there is a HOLE of COLOUR y, and x is NONE, "
        + "or the COLOUR of that HOLE, or of the one behind it."})
    static void promise25_terms3_turned_allCardsOfThreeColours() {
        for (int card = 0; card < 81; card++) {
            int[] holes = {card % 3, card / 3 % 3, card / 9 % 3, card / 27};
            for (int then = 0; then < 4; then++) {
                for (int first = NONE; first < 4; first++) {
                    int x = first == NONE ? NONE : holes[first];
                    due("card " + card + " from hole " + first + " to " + then,
                        turnedBetween(holes, first, then), waysBetween(holes, x, holes[then]));
                }
            }
        }
    }

    @Says({"or of the one ahead of it", "or of the one behind it"})
    static void promise25_terms3_turned_roundPast3And0() {
        int[] holes = {0, 1, 2, 2};
        due("2 then 0: hole 3 is ahead of 0", turnedBetween(holes, 3, 0), 2);
        due("0 then 2: hole 0 is behind 3", turnedBetween(holes, 0, 3), 4);
        due("0 then 1", turnedBetween(holes, 0, 1), 2);
        due("1 then 0", turnedBetween(holes, 1, 0), 4);
        due("1 then 2", turnedBetween(holes, 1, 2), 2);
        due("2 then 1", turnedBetween(holes, 2, 1), 4);
        int[] apart = {0, 1, 0, 2};
        due("1 then 2: two holes off, no way", turnedBetween(apart, 1, 3), 0);
        due("0 then 1: either way", turnedBetween(apart, 0, 1), 6);
    }

    @Says({"(y is NONE: bit 0 alone, if x is, too.)", "x is NONE"})
    static void promise25_terms3_turned_none() {
        CardBand x = woven(FOUR);
        rest(x, 2);
        due("nothing, nothing", x.turned(0, 0), 1);
        due("nothing, nothing, of no pack", x.turned(3, 0), 1);
        x.pick(1, 1);
        due("nothing, then a colour", x.turned(0, 0), 6);
        due("nothing, nothing, another pack", x.turned(1, 0), 1);
        due("the rows ahead", x.turned(0, 1), 1);
        rest(x, 1);
        due("a colour, the same: any way", x.turned(0, 0), 7);
    }

    @Says({"TURNED of a CARD: by what it SHOWED in the i-th ROW of THE BAND, y, and in the ROW ahead of that one, x (0 is the latest ROW)"})
    static void promise25_terms3_turned_0IsTheLatestRow() {
        CardBand x = woven("l4;c0 1 2 3 0;k1;");
        x.pick(1, 2);
        x.pick(2, 2);
        x.pick(0, 1);
        due("0 0", x.turned(0, 0), 7);
        due("1 then 0", x.turned(0, 1), 4);
        due("1 1", x.turned(0, 2), 7);
        due("0 then 1", x.turned(0, 3), 2);
        due("no row ahead of the first", x.turned(0, 4), NOT);
    }

    @Says({"TURNED (i 0 .. 22)."})
    static void promise25_turned_i0To22() {
        CardBand x = woven(FOUR);
        x.pick(1, 30);
        due("turned(0, -1)", x.turned(0, -1), OUTSIDE);
        due("turned(0, 0)", x.turned(0, 0), 2);
        due("turned(0, 22)", x.turned(0, 22), 2);
        due("turned(0, 23)", x.turned(0, 23), OUTSIDE);
        due("turned(0, MIN)", x.turned(0, MIN), OUTSIDE);
        due("turned(0, MAX)", x.turned(0, MAX), OUTSIDE);
    }

    @Says({"NOT: no two such ROWS."})
    static void promise25_turned_notNoTwoSuchRows() {
        CardBand x = woven(FOUR);
        for (int rows = 0; rows <= 25; rows++) {
            int kept = Math.min(rows, 24);
            for (int i = Math.max(0, kept - 3); i <= Math.min(22, kept + 1); i++) {
                due("turned(3, " + i + ") of " + rows + " rows", x.turned(3, i), i + 2 <= kept ? 1 : NOT);
            }
            x.pick(0, 1);
        }
    }

    @Says({"UNKNOWN, OUTSIDE, NOT: no two such ROWS."})
    static void promise25_turned_unknownCards() {
        CardBand x = woven(FOUR);
        rest(x, 2);
        due("turned(-1, 0)", x.turned(-1, 0), UNKNOWN);
        due("turned(3, 0)", x.turned(3, 0), 1);
        due("turned(4, 0)", x.turned(4, 0), UNKNOWN);
        due("turned(MIN, 0)", x.turned(MIN, 0), UNKNOWN);
        due("turned(MAX, 0)", x.turned(MAX, 0), UNKNOWN);
    }

    @Says({"UNKNOWN, OUTSIDE, NOT: no two such ROWS.",
        "REFUSALS, of several the first in this order: UNKNOWN (a CARD, PACK, COLOUR, IMAGE that there is not; bits of such; "
        + "one twice, where two are asked), OUTSIDE (another number out of its bounds), NOT (not now, as told), FULL."})
    static void promise25_turned_unknownThenOutsideThenNot() {
        CardBand x = woven(FOUR);
        due("card and i", x.turned(4, 23), UNKNOWN);
        due("card, no rows", x.turned(4, 0), UNKNOWN);
        due("i, no rows", x.turned(0, 23), OUTSIDE);
        due("i, no rows", x.turned(0, -1), OUTSIDE);
        due("no rows", x.turned(0, 22), NOT);
        due("no loom", new CardBand().turned(0, 0), UNKNOWN);
    }

    @Says({"UNKNOWN, OUTSIDE, NOT: no two such ROWS.", "What is refused changes nothing."})
    static void promise25_turned_refusedChangesNothing() {
        refused("turned(4, 0)", x -> x.turned(4, 0), UNKNOWN);
        refused("turned(0, 23)", x -> x.turned(0, 23), OUTSIDE);
        refused("turned(0, 22)", x -> x.turned(0, 22), NOT);
    }
}
