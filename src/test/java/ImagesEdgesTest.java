/** Promises 34 to 36 with their words in section 3 of 'Terms', at their edges: the seed, images. */
public final class ImagesEdgesTest extends Edge {
    public static void main(String[] args) {
        run(ImagesEdgesTest.class);
    }

    // ---- promise 34

    @Says({"THE SEED becomes v (0 .. 2147483647): what it was. OUTSIDE."})
    static void promise34_seed_v0To2147483647() {
        CardBand x = new CardBand();
        due("seed(-1)", x.seed(-1), OUTSIDE);
        due("seed(MIN)", x.seed(MIN), OUTSIDE);
        due("seed(NOT)", x.seed(NOT), OUTSIDE);
        due("0 at first", x.seed(2147483647), 0);
        due("the greatest", x.seed(0), 2147483647);
        due("the least", x.seed(1), 0);
        due("one", x.seed(2147483646), 1);
        due("one less than the greatest", x.seed(5), 2147483646);
    }

    @Says({"(0 at first"})
    static void promise34_terms3_seed_0AtFirst() {
        due("a new object", new CardBand().seed(1), 0);
        due("behind a text", woven(FOUR).seed(1), 0);
    }

    @Says({"each DRAW it becomes it times 1103515245 and 12345, left over by 2 to the 31"})
    static void promise34_terms3_seed_goesRoundPast2ToThe31() {
        int[] seeds = {0, 1, 2, 1000000, 1073741823, 1073741824, 2147483646, 2147483647};
        for (int seed : seeds) {
            CardBand x = woven("l1;c0 0 0 0 0;k1;");
            x.seed(seed);
            x.drift(1);
            due("one draw from " + seed, x.seed(0), (seed * 1103515245L + 12345L) % 2147483648L);
        }
        CardBand y = woven("l1;c0 0 0 0 0;");
        y.seed(77);
        y.drift(30);
        due("no packs, no draws", y.seed(0), 77);
    }

    @Says({"OUTSIDE.", "What is refused changes nothing."})
    static void promise34_seed_refusedChangesNothing() {
        refused("seed(-1)", x -> x.seed(-1), OUTSIDE);
        refused("seed(MIN)", x -> x.seed(MIN), OUTSIDE);
    }

    // ---- promise 35

    @Says({"IMAGE i becomes what is so (nothing can be undone then): 1. UNKNOWN.", "IMAGES 0, 1 keep all of section 2, THE SEED."})
    static void promise35_keep_images0And1() {
        CardBand x = woven(FOUR);
        due("keep(-1)", x.keep(-1), UNKNOWN);
        due("keep(0)", x.keep(0), 1);
        due("keep(1)", x.keep(1), 1);
        due("keep(2)", x.keep(2), UNKNOWN);
        due("keep(MIN)", x.keep(MIN), UNKNOWN);
        due("keep(MAX)", x.keep(MAX), UNKNOWN);
        due("without a loom", new CardBand().keep(1), 1);
    }

    @Says({"(nothing can be undone then)"})
    static void promise35_keep_nothingCanBeUndoneThen() {
        CardBand x = woven(FOUR);
        x.pick(1, 30);
        x.keep(0);
        due("told(13)", x.told(13), 0);
        due("undo(1)", x.undo(1), NOT);
        due("what is so stays", x.told(4), 30);
        x.flip(0);
        x.flip(0);
        due("two since", x.told(13), 2);
        due("three of them", x.undo(3), NOT);
        due("those two", x.undo(2), 30);
    }

    @Says({"UNKNOWN.", "What is refused changes nothing."})
    static void promise35_keep_refusedChangesNothing() {
        refused("keep(2)", x -> x.keep(2), UNKNOWN);
        refused("keep(-1)", x -> x.keep(-1), UNKNOWN);
        due("the deeds of it stay", made(Edge::rich).told(13), 8);
    }

    @Says({"IMAGE i becomes what is so"})
    static void promise35_keep_againIsTheLaterOne() {
        CardBand x = woven(FOUR);
        x.pick(1, 1);
        x.keep(0);
        x.keep(1);
        x.pick(1, 1);
        x.keep(0);
        x.pick(1, 1);
        due("goBack(0)", x.goBack(0), 1);
        due("the later image", x.told(4), 2);
        due("goBack(1)", x.goBack(1), 1);
        due("the other image", x.told(4), 1);
    }

    @Says({"IMAGE i becomes what is so"})
    static void promise35_keep_changesNothingElse() {
        Deed without = x -> {
            loomOf(x, FOUR);
            x.keep(1);
            x.pick(7, 3);
            x.see(0, 1, 1);
            x.write(0, 1);
            x.seed(3);
            x.keep(0);
        };
        alike("behind keep(0) again", x -> {
            without.on(x);
            x.keep(0);
        }, without, true);
    }

    // ---- promise 36

    @Says({"What is so becomes IMAGE i (nothing can be undone then): 1. UNKNOWN, NOT: it was not kept."})
    static void promise36_goBack_images0And1() {
        CardBand x = woven(FOUR);
        x.keep(0);
        x.keep(1);
        due("goBack(-1)", x.goBack(-1), UNKNOWN);
        due("goBack(0)", x.goBack(0), 1);
        due("goBack(1)", x.goBack(1), 1);
        due("goBack(2)", x.goBack(2), UNKNOWN);
        due("goBack(MIN)", x.goBack(MIN), UNKNOWN);
        due("goBack(MAX)", x.goBack(MAX), UNKNOWN);
    }

    @Says({"NOT: it was not kept."})
    static void promise36_goBack_notItWasNotKept() {
        CardBand x = woven(FOUR);
        due("goBack(0)", x.goBack(0), NOT);
        due("goBack(1)", x.goBack(1), NOT);
        x.keep(1);
        due("goBack(0), 1 is kept", x.goBack(0), NOT);
        due("goBack(1)", x.goBack(1), 1);
        loomOf(x, FOUR);
        due("gone with the text", x.goBack(1), NOT);
        x.keep(0);
        due("goBack(1), 0 is kept", x.goBack(1), NOT);
        due("goBack(0)", x.goBack(0), 1);
        loomOf(x, "l1;?");
        due("a faulty text leaves it", x.goBack(0), 1);
    }

    @Says({"UNKNOWN, NOT: it was not kept."})
    static void promise36_goBack_unknownComesAheadOfNot() {
        due("goBack(2), none is kept", woven(FOUR).goBack(2), UNKNOWN);
        due("goBack(-1), none is kept", woven(FOUR).goBack(-1), UNKNOWN);
        due("goBack(2) without a loom", new CardBand().goBack(2), UNKNOWN);
        due("goBack(1) without a loom", new CardBand().goBack(1), NOT);
    }

    @Says({"UNKNOWN, NOT: it was not kept.", "What is refused changes nothing."})
    static void promise36_goBack_refusedChangesNothing() {
        refused("goBack(2)", x -> x.goBack(2), UNKNOWN);
        refused("goBack(-1)", x -> x.goBack(-1), UNKNOWN);
        Deed notKept = x -> {
            loomOf(x, FOUR);
            x.keep(1);
            x.pick(7, 3);
            x.seed(3);
        };
        refused("goBack(0) not kept", notKept, x -> x.goBack(0), NOT);
    }

    @Says({"(nothing can be undone then)"})
    static void promise36_goBack_nothingCanBeUndoneThen() {
        CardBand x = woven(FOUR);
        x.keep(0);
        x.pick(1, 5);
        due("five", x.told(13), 5);
        x.goBack(0);
        due("told(13)", x.told(13), 0);
        due("undo(1)", x.undo(1), NOT);
        due("picks", x.told(4), 0);
    }

    private static void before(CardBand x) {
        loomOf(x, FOUR);
        x.pick(4, 30);
        x.flip(1);
        x.shift(2, 3);
        x.buy(1, 33);
        x.drift(5);
        x.seed(2147483647);
        x.keep(1);
        x.keep(0);
    }

    @Says({"IMAGES 0, 1 keep all of section 2, THE SEED."})
    static void promise36_terms3_goBack_allOfSection2AndTheSeed() {
        Deed[] deeds = {x -> x.pick(5, 3), x -> x.pick(7, 30), x -> x.flip(2), x -> x.shift(1, 3), x -> x.buy(2, 100),
            x -> x.drift(9), x -> x.seed(4), x -> x.undo(1)};
        for (int i = 0; i < deeds.length; i++) {
            Deed deed = deeds[i];
            for (int image = 0; image < 2; image++) {
                int at = image;
                alike("behind deed " + i + " and goBack(" + image + ")", x -> {
                    before(x);
                    deed.on(x);
                    due("goBack(" + at + ")", x.goBack(at), 1);
                }, ImagesEdgesTest::before, true);
            }
        }
    }

    @Says({"IMAGES 0, 1 keep all of section 2, THE SEED."})
    static void promise36_terms3_goBack_allEightCardsAndColours() {
        Deed before = x -> {
            loomOf(x, "l8;" + "c0 1 2 3 0;c4 5 6 7 1;".repeat(4) + "k3;k12;k48;k192;");
            x.pick(40, 25);
            for (int c = 0; c < 8; c++) {
                x.shift(c, c % 4);
            }
            x.keep(0);
        };
        alike("gone back", x -> {
            before.on(x);
            x.pick(41, 30);
            for (int c = 0; c < 8; c++) {
                x.flip(c);
                x.buy(c, 5);
            }
            x.drift(3);
            x.goBack(0);
        }, before, true);
    }

    @Says({"What is so becomes IMAGE i"})
    static void promise36_goBack_theImageStaysAsItIs() {
        alike("gone back and on and back again", x -> {
            before(x);
            x.goBack(0);
            x.pick(5, 3);
            x.drift(9);
            x.flip(0);
            x.goBack(0);
        }, ImagesEdgesTest::before, true);
        CardBand x = woven(FOUR);
        x.pick(1, 1);
        x.keep(0);
        x.pick(1, 1);
        x.keep(1);
        for (int i = 0; i < 4; i++) {
            x.goBack(i % 2);
            due("image " + i % 2, x.told(4), 1 + i % 2);
        }
    }

    @Says({"IMAGES 0, 1 keep all of section 2, THE SEED."})
    static void promise36_terms3_goBack_notWhatWasSeenNorTheBookNorTheText() {
        CardBand x = woven(FOUR);
        x.see(0, 1, 1);
        x.keep(0);
        x.see(0, 2, 2);
        x.write(0, NONE);
        x.feed('l');
        x.goBack(0);
        due("seen", x.told(11), 2);
        due("book", x.told(12), 1);
        due("letters", x.told(3), 1);
        x.keep(1);
        x.tear();
        x.goBack(1);
        due("torn, seen", x.told(11), 0);
        due("torn, book", x.told(12), 0);
    }

    @Says({"What is so becomes IMAGE i"})
    static void promise36_goBack_withoutALoom() {
        CardBand x = new CardBand();
        x.seed(9);
        x.keep(1);
        x.seed(10);
        due("goBack(1)", x.goBack(1), 1);
        due("the seed", x.seed(0), 9);
        due("no loom still", x.repeat(), NOT);
        due("no picks", x.told(4), 0);
    }
}
