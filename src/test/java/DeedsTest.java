/** Promises 10 to 15: picks, flips, shifts, yarn bought, draws, what is undone. */
public final class DeedsTest {
    private static final int NONE = Checks.NONE, UNKNOWN = Checks.UNKNOWN, OUTSIDE = Checks.OUTSIDE;
    private static final int NOT = Checks.NOT, FULL = Checks.FULL;
    private static final String TWO_PACKS = "l3;c0 1 2 1 0;c1 1 0 0 1;c0 1 2 1 1;c2 2 2 2 0;k5;k2;";
    private static final Checks checks = new Checks();

    public static void main(String[] args) {
        pick();
        pickBounds();
        pickByYarn();
        pickByTwist();
        pickFull();
        flip();
        shift();
        buy();
        drift();
        driftBounds();
        undo();
        undoKeepsThirty();
        undoForgets();
        checks.end();
    }

    private static void pick() {
        checks.promise(10);
        CardBand x = Checks.woven(TWO_PACKS);
        checks.due("pick(7, 1)", x.pick(7, 1), 1);
        checks.due("pack 0 forward", x.card(0, 5), 1);
        checks.due("pack 1 back", x.card(1, 5), 3);
        checks.due("pack 1 shows hole 3", x.card(1, 7), 0);
        checks.due("of no pack", x.card(3, 5), 0);
        checks.due("of no pack, twist", x.card(3, 6), 99);
        checks.due("pick(7, 3)", x.pick(7, 3), 4);
        checks.due("once round", x.card(0, 5), 0);
        checks.due("twist", x.card(2, 6), 103);
        checks.due("twist back", x.card(1, 6), 95);
        checks.due("pick(0, 30)", x.pick(0, 30), 34);
        checks.due("not turned", x.card(2, 6), 103);
        checks.due("shows as it did", x.card(0, 7), 1);
        checks.due("pick(2, 1)", x.pick(2, 1), 35);
        checks.due("back from 0 is 3", x.card(0, 5), 3);
        checks.due("slants the other way", x.card(0, 8), 1);
        checks.due("threaded the other way, slants", x.card(2, 8), 0);
    }

    private static void pickBounds() {
        checks.promise(10);
        CardBand x = Checks.woven(TWO_PACKS);
        checks.due("pick(-1, 1)", x.pick(-1, 1), OUTSIDE);
        checks.due("pick(81, 1)", x.pick(81, 1), OUTSIDE);
        checks.due("a pack that there is not", x.pick(9, 1), OUTSIDE);
        checks.due("pick(0, 0)", x.pick(0, 0), OUTSIDE);
        checks.due("pick(0, 31)", x.pick(0, 31), OUTSIDE);
        checks.due("pick(MIN, MIN)", x.pick(Integer.MIN_VALUE, Integer.MIN_VALUE), OUTSIDE);
        checks.due("picks", x.told(4), 0);
        checks.due("deeds", x.told(13), 0);
        checks.due("pick(8, 30)", x.pick(8, 30), 30);
        CardBand none = new CardBand();
        checks.due("no loom", none.pick(0, 1), NOT);
        checks.due("no loom, n out of bounds", none.pick(0, 31), OUTSIDE);
        CardBand four = Checks.woven("l1;c0 0 0 0 0;c0 0 0 0 0;c0 0 0 0 0;c0 0 0 0 0;k1;k2;k4;k8;");
        checks.due("pick(80, 1)", four.pick(80, 1), 1);
        checks.due("pack 3 is the highest figure", four.pick(27, 1), 2);
        checks.due("turned back and forward", four.card(3, 6), 99);
        checks.due("turned back", four.card(2, 6), 98);
        CardBand noPacks = Checks.woven("l1;c0 0 0 0 0;");
        checks.due("no packs", noPacks.pick(1, 1), OUTSIDE);
        checks.due("no packs, no moves", noPacks.pick(0, 1), 1);
    }

    private static void pickByYarn() {
        checks.promise(10);
        CardBand x = Checks.woven("l2;c0 1 1 0 0;c1 1 1 1 0;k3;y0 2;y1 9;");
        checks.due("yarn for three of four", x.pick(1, 5), NOT);
        checks.due("nothing is done", x.told(4), 0);
        checks.due("no yarn is used", x.told(10), 11);
        checks.due("no deed", x.told(13), 0);
        checks.due("nothing shown", x.card(0, 7), NONE);
        checks.due("yarn just does", x.pick(1, 4), 4);
        checks.due("yarn 0", x.yarn(0), 0);
        checks.due("yarn 1", x.yarn(1), 3);
        checks.due("no yarn", x.pick(1, 1), NOT);
        checks.due("bought", x.buy(0, 1), 1);
        checks.due("one more", x.pick(1, 1), 5);
        checks.due("yarn 1 behind it", x.yarn(1), 2);
        checks.due("not turned needs none", x.pick(0, 30), 35);
        CardBand y = Checks.woven("l1;c0 0 0 0 0;c0 0 0 0 0;k3;y0 1;");
        checks.due("two cards, one yarn", y.pick(1, 1), NOT);
    }

    private static void pickByTwist() {
        checks.promise(10);
        CardBand x = Checks.woven("l1;c0 0 0 0 0;c0 0 0 0 0;k1;k2;");
        x.pick(7, 30);
        x.pick(7, 30);
        x.pick(7, 30);
        checks.due("beyond 99", x.pick(7, 10), NOT);
        checks.due("99 at most", x.pick(7, 9), 99);
        checks.due("twist", x.card(0, 6), 198);
        checks.due("twist back", x.card(1, 6), 0);
        checks.due("pack 0 beyond", x.pick(1, 1), NOT);
        checks.due("pack 1 beyond", x.pick(6, 1), NOT);
        checks.due("both the other way", x.pick(5, 1), 100);
        checks.due("and again", x.pick(7, 1), 101);
    }

    /** A CardBand of no cards with the told number of PICKS, a multiple of 30. */
    private static CardBand withPicks(int picks) {
        CardBand x = Checks.woven("l1;c0 0 0 0 0;k1;y0 0;");
        for (int i = 0; i < picks / 30; i++) {
            x.pick(0, 30);
        }
        return x;
    }

    private static void pickFull() {
        checks.promise(10);
        CardBand x = withPicks(9000);
        checks.due("picks", x.told(4), 9000);
        checks.due("9000 is not above", x.pick(0, 30), 9030);
        checks.due("above", x.pick(0, 1), FULL);
        checks.due("no yarn comes first", x.pick(1, 1), NOT);
        checks.due("outside comes first", x.pick(0, 0), OUTSIDE);
        checks.due("undo", x.undo(30), 9000);
        checks.due("9000 again", x.pick(0, 1), 9001);
        checks.due("9001 is above", x.pick(0, 1), FULL);
        checks.promise(14);
        checks.due("drift above", x.drift(1), FULL);
        checks.due("drift outside", x.drift(31), OUTSIDE);
        checks.due("undo one", x.undo(1), 9000);
        checks.due("seed", x.seed(3), 0);
        checks.due("drift at 9000", x.drift(30) >= 9000 ? 1 : 0, 1);
    }

    private static void flip() {
        checks.promise(11);
        CardBand x = Checks.woven(TWO_PACKS);
        x.pick(1, 1);
        checks.due("flip(0)", x.flip(0), 1);
        checks.due("S", x.card(0, 4), 1);
        checks.due("slants as it did", x.card(0, 8), 0);
        checks.due("stands as it did", x.card(0, 5), 1);
        x.pick(1, 1);
        checks.due("slants forward", x.card(0, 8), 1);
        x.pick(2, 1);
        checks.due("slants back", x.card(0, 8), 0);
        checks.due("flip(0) again", x.flip(0), 0);
        checks.due("flip(3) of no pack", x.flip(3), 1);
        checks.due("flip(4)", x.flip(4), UNKNOWN);
        checks.due("flip(-1)", x.flip(-1), UNKNOWN);
        checks.due("deeds", x.told(13), 6);
        checks.due("no loom", new CardBand().flip(0), UNKNOWN);
    }

    private static void shift() {
        checks.promise(12);
        CardBand x = Checks.woven(TWO_PACKS);
        checks.due("shift(0, 3)", x.shift(0, 3), 3);
        checks.due("shift(0, 2)", x.shift(0, 2), 1);
        checks.due("shift(0, 0)", x.shift(0, 0), 1);
        checks.due("shift(3, 1) of no pack", x.shift(3, 1), 1);
        checks.due("hole", x.card(0, 5), 1);
        checks.due("twist", x.card(0, 6), 99);
        checks.due("shows", x.card(0, 7), NONE);
        checks.due("another of the pack", x.card(2, 5), 0);
        checks.due("deeds, by 0 is one", x.told(13), 4);
        checks.due("shift(4, 9)", x.shift(4, 9), UNKNOWN);
        checks.due("shift(-1, 0)", x.shift(-1, 0), UNKNOWN);
        checks.due("shift(0, 4)", x.shift(0, 4), OUTSIDE);
        checks.due("shift(0, -1)", x.shift(0, -1), OUTSIDE);
        x.pick(1, 1);
        checks.due("shows hole 1", x.card(0, 7), 1);
        checks.due("stands at 2", x.card(0, 5), 2);
    }

    private static void buy() {
        checks.promise(13);
        CardBand x = Checks.woven("l2;y0 0;y1 998;");
        checks.due("buy(0, 1)", x.buy(0, 1), 1);
        checks.due("buy(0, 997)", x.buy(0, 997), 998);
        checks.due("buy(0, 999)", x.buy(0, 999), 999);
        checks.due("buy(0, 1) at most", x.buy(0, 1), 999);
        checks.due("buy(1, 1)", x.buy(1, 1), 999);
        checks.due("all yarn", x.told(10), 1998);
        checks.due("deeds", x.told(13), 5);
        checks.due("buy(2, 0)", x.buy(2, 0), UNKNOWN);
        checks.due("buy(-1, 1)", x.buy(-1, 1), UNKNOWN);
        checks.due("buy(0, 0)", x.buy(0, 0), OUTSIDE);
        checks.due("buy(0, 1000)", x.buy(0, 1000), OUTSIDE);
        checks.due("buy(0, MAX)", x.buy(0, Integer.MAX_VALUE), OUTSIDE);
        checks.due("undo", x.undo(5), 0);
        checks.due("yarn as told", x.told(10), 998);
    }

    private static void drift() {
        checks.promise(14);
        CardBand x = Checks.woven(TWO_PACKS);
        x.seed(37);
        CardBand y = Checks.woven(TWO_PACKS);
        long seed = 37;
        for (int i = 0; i < 9; i++) {
            seed = (seed * 1103515245L + 12345L) % (1L << 31);
            long first = seed / 65536 % 3;
            seed = (seed * 1103515245L + 12345L) % (1L << 31);
            long second = seed / 65536 % 3;
            y.pick((int) (first + 3 * second), 1);
        }
        checks.due("drift(9)", x.drift(9), 9);
        for (int c = 0; c < 4; c++) {
            for (int what = 4; what < 9; what++) {
                checks.due("card(" + c + ", " + what + ")", x.card(c, what), y.card(c, what));
            }
        }
        checks.due("the seed behind it", x.seed(0), seed);
        checks.due("each time is a deed", x.told(13), 9);
        CardBand z = Checks.woven("l1;c0 0 0 0 0;k1;y0 0;");
        int picks = z.drift(30);
        checks.due("some can't be", picks > 0 && picks < 30 ? 1 : 0, 1);
        checks.due("each time is a deed though", z.told(13), 30);
        checks.due("not turned", z.card(0, 6), 99);
        checks.due("undone", z.undo(30), 0);
        CardBand noPacks = Checks.woven("l1;");
        noPacks.seed(11);
        checks.due("no packs", noPacks.drift(4), 4);
        checks.due("no draws", noPacks.seed(0), 11);
    }

    private static void driftBounds() {
        checks.promise(14);
        CardBand x = new CardBand();
        checks.due("drift(0)", x.drift(0), OUTSIDE);
        checks.due("drift(31)", x.drift(31), OUTSIDE);
        checks.due("drift(1) without a loom", x.drift(1), NOT);
        checks.due("seed", x.seed(0), 0);
    }

    private static void undo() {
        checks.promise(15);
        CardBand x = Checks.woven(TWO_PACKS);
        x.pick(4, 3);
        x.flip(1);
        x.shift(1, 2);
        x.buy(0, 9);
        checks.due("deeds", x.told(13), 6);
        checks.due("undo(0)", x.undo(0), OUTSIDE);
        checks.due("undo(31)", x.undo(31), OUTSIDE);
        checks.due("undo(7)", x.undo(7), NOT);
        checks.due("yarn bought", x.yarn(0), 506);
        checks.due("undo(1)", x.undo(1), 3);
        checks.due("yarn", x.yarn(0), 497);
        checks.due("undo(2)", x.undo(2), 3);
        checks.due("S", x.card(1, 4), 1);
        checks.due("hole", x.card(1, 5), 3);
        checks.due("undo(1) of three picks", x.undo(1), 2);
        checks.due("rows", x.told(5), 2);
        checks.due("row(0, 0)", x.row(0, 0), 1);
        checks.due("slants", x.card(1, 8), 1);
        x.pick(2, 1);
        checks.due("undo(3)", x.undo(3), 0);
        checks.due("shows", x.card(0, 7), NONE);
        checks.due("slants", x.card(0, 8), NONE);
        checks.due("all yarn", x.told(10), 1500);
        checks.due("nothing left", x.undo(1), NOT);
        x.drift(5);
        int seed = x.seed(0);
        x.seed(seed);
        x.undo(5);
        checks.due("the seed stays", x.seed(0), seed);
        checks.due("no loom", new CardBand().undo(1), NOT);
        checks.due("no loom, outside", new CardBand().undo(0), OUTSIDE);
    }

    private static void undoKeepsThirty() {
        checks.promise(15);
        CardBand x = Checks.woven(TWO_PACKS);
        x.pick(1, 30);
        checks.due("thirty", x.told(13), 30);
        int oldRow = x.row(23, 0);
        x.pick(2, 14);
        checks.due("thirty still", x.told(13), 30);
        checks.due("undo(14)", x.undo(14), 30);
        checks.due("the rows are there again", x.row(23, 0), oldRow);
        checks.due("sixteen left", x.told(13), 16);
        checks.due("undo(17)", x.undo(17), NOT);
        checks.due("undo(16)", x.undo(16), 14);
        checks.due("twist", x.card(0, 6), 113);
        checks.due("rows", x.told(5), 14);
        checks.due("none left", x.told(13), 0);
    }

    private static void undoForgets() {
        checks.promise(15);
        CardBand x = Checks.woven(TWO_PACKS);
        x.flip(0);
        x.keep(0);
        checks.due("behind keep", x.undo(1), NOT);
        x.flip(0);
        x.goBack(0);
        checks.due("behind goBack", x.undo(1), NOT);
        x.flip(0);
        x.loom();
        checks.due("behind a text", x.undo(1), NOT);
    }
}
