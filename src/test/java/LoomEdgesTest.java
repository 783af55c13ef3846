/** Promises 1 to 9 at their edges: a new object, the text, what is told of the loom. Section 1 is in TextEdgesTest. */
public final class LoomEdgesTest extends Edge {
    public static void main(String[] args) {
        run(LoomEdgesTest.class);
    }

    // ---- promise 1

    @Says({"No LOOM."})
    static void promise01_newObject_noLoom_whatNeedsOneIsNot() {
        due("pick(0, 1)", new CardBand().pick(0, 1), NOT);
        due("drift(1)", new CardBand().drift(1), NOT);
        due("undo(1)", new CardBand().undo(1), NOT);
        due("lasts(0, 0)", new CardBand().lasts(0, 0), NOT);
        due("lasts(0, 1)", new CardBand().lasts(0, 1), NOT);
        due("untwist(0)", new CardBand().untwist(0), NOT);
        due("untwist(1)", new CardBand().untwist(1), NOT);
        due("home(0)", new CardBand().home(0), NOT);
        due("home(1)", new CardBand().home(1), NOT);
        due("repeat()", new CardBand().repeat(), NOT);
        due("goBack(0)", new CardBand().goBack(0), NOT);
        due("goBack(1)", new CardBand().goBack(1), NOT);
    }

    @Says({"No LOOM."})
    static void promise01_newObject_noLoom_noCardsNoPacksNoColours() {
        CardBand x = new CardBand();
        due("card(0, 0)", x.card(0, 0), UNKNOWN);
        due("pack(0)", x.pack(0), UNKNOWN);
        due("yarn(0)", x.yarn(0), UNKNOWN);
        due("row(0, 0)", x.row(0, 0), UNKNOWN);
        due("flip(0)", x.flip(0), UNKNOWN);
        due("shift(0, 0)", x.shift(0, 0), UNKNOWN);
        due("buy(0, 1)", x.buy(0, 1), UNKNOWN);
        due("ahead(0, 1, 0)", x.ahead(0, 1, 0), UNKNOWN);
        due("together(0, 0, 0)", x.together(0, 0, 0), UNKNOWN);
        due("floats(0)", x.floats(0), UNKNOWN);
        due("shown(0)", x.shown(0), UNKNOWN);
        due("turned(0, 0)", x.turned(0, 0), UNKNOWN);
        due("share(1, 0)", x.share(1, 0), UNKNOWN);
        due("see(0, 1, 0)", x.see(0, 1, 0), UNKNOWN);
        due("holes(0)", x.holes(0), UNKNOWN);
        due("lookAt(0)", x.lookAt(0), UNKNOWN);
        due("write(0, -1)", x.write(0, NONE), UNKNOWN);
    }

    @Says({"No LOOM."})
    static void promise01_newObject_noLoom_nothingIsTold() {
        CardBand x = new CardBand();
        int[] want = {0, 0, 0, 0, 0, 0, 0, 0, NONE, NONE, 0, 0, 0, 0};
        for (int what = 0; what < want.length; what++) {
            due("told(" + what + ")", x.told(what), want[what]);
        }
        due("fault()", x.fault(), NONE);
        due("alike(NONE)", x.alike(NONE), 0);
        due("alike(0)", x.alike(0), NONE);
        due("share(7, NONE)", x.share(7, NONE), 7);
        due("plain(0, 0)", x.plain(0, 0), 1000000000);
        due("judge()", x.judge(), NONE);
        due("tear()", x.tear(), 0);
        due("seed(0)", x.seed(0), 0);
    }

    @Says({"NONE is -1.",
        "They are far below all that is counted: -1000000001 and on."})
    static void promise01_terms0_constants() {
        due("NONE", CardBand.NONE, -1);
        due("UNKNOWN", CardBand.UNKNOWN, -1000000001);
        due("OUTSIDE", CardBand.OUTSIDE, -1000000002);
        due("NOT", CardBand.NOT, -1000000003);
        due("FULL", CardBand.FULL, -1000000004);
    }

    // ---- promise 2

    @Says({"A letter (0 .. 255) comes behind THE TEXT: how many it has.", "OUTSIDE"})
    static void promise02_feed_letter0To255() {
        CardBand x = new CardBand();
        due("feed(-1)", x.feed(-1), OUTSIDE);
        due("feed(0)", x.feed(0), 1);
        due("feed(255)", x.feed(255), 2);
        due("feed(256)", x.feed(256), OUTSIDE);
        due("feed(MIN)", x.feed(MIN), OUTSIDE);
        due("feed(MAX)", x.feed(MAX), OUTSIDE);
        due("two letters", x.told(3), 2);
    }

    @Says({"comes behind THE TEXT"})
    static void promise02_feed_comesBehindTheText() {
        CardBand x = new CardBand();
        feedAll(x, "l3");
        due("feed(;)", x.feed(';'), 3);
        due("loom()", x.loom(), 0);
        due("colours", x.told(0), 3);
        due("the first letter of the next text", x.feed('l'), 1);
    }

    @Says({"FULL (240)"})
    static void promise02_feed_full240() {
        CardBand x = new CardBand();
        for (int i = 1; i <= 240; i++) {
            due("feed(32) no. " + i, x.feed(32), i);
        }
        due("the 241st", x.feed(32), FULL);
        due("letters", x.told(3), 240);
        due("the 241st once more", x.feed(';'), FULL);
        due("blanks alone", x.loom(), 0);
        due("room again", x.feed(32), 1);
    }

    @Says({"OUTSIDE, FULL (240)."})
    static void promise02_feed_outsideComesAheadOfFull() {
        CardBand x = made(LoomEdgesTest::fullText);
        due("feed(256)", x.feed(256), OUTSIDE);
        due("feed(-1)", x.feed(-1), OUTSIDE);
        due("feed(255)", x.feed(255), FULL);
    }

    private static void fullText(CardBand x) {
        feedAll(x, "l1;" + "c0 0 0 0 0;".repeat(3) + " ".repeat(204));
    }

    @Says({"OUTSIDE, FULL (240).", "What is refused changes nothing."})
    static void promise02_feed_refusedChangesNothing() {
        refused("feed(-1)", x -> x.feed(-1), OUTSIDE);
        refused("feed(256)", x -> x.feed(256), OUTSIDE);
        refused("feed(x) when full", LoomEdgesTest::fullText, x -> x.feed('x'), FULL);
        refused("feed(999) when full", LoomEdgesTest::fullText, x -> x.feed(999), OUTSIDE);
    }

    // ---- promise 3

    @Says({"THE TEXT (it is empty then, with a FAULT, too) becomes THE LOOM"})
    static void promise03_loom_theTextIsEmptyThen() {
        CardBand x = new CardBand();
        loomOf(x, "l2;c0 1 0 1 0;");
        due("told(3)", x.told(3), 0);
        due("feed()", x.feed('l'), 1);
        due("the next text is read alone", loomOf(x, "3;"), 0);
        due("its colours", x.told(0), 3);
    }

    @Says({"(it is empty then, with a FAULT, too)"})
    static void promise03_loom_theTextIsEmptyThenWithAFaultToo() {
        CardBand x = new CardBand();
        due("a fault", loomOf(x, "l2;?c0 0 0 0 0;"), -11);
        due("told(3)", x.told(3), 0);
        due("the next text is read alone", loomOf(x, "l5;"), 0);
        due("its colours", x.told(0), 5);
    }

    @Says({"(it is empty then, with a FAULT, too)"})
    static void promise03_loom_nothingOfALongerTextIsRead() {
        String text = "l2;c0 1 0 1 1;k1;y1 7;";
        for (int length = 1; length < text.length(); length++) {
            String part = text.substring(0, length);
            CardBand x = woven(text);
            CardBand y = new CardBand();
            due("loom() of " + part, loomOf(x, part), loomOf(y, part));
            due("fault() of " + part, x.fault(), y.fault());
            loomOf(x, text + "?");
            due("loom() of " + part + " behind a fault", loomOf(x, part), loomOf(y, part));
            due("fault() of " + part + " behind a fault", x.fault(), y.fault());
        }
    }

    @Says({"THE TEXT (it is empty then, with a FAULT, too) becomes THE LOOM"})
    static void promise03_loom_nothingOfAnEarlierLoomIsLeft() {
        String much = "l8;" + "c7 6 5 4 1;".repeat(8) + "k1;k2;k4;k248;y0 1;y7 999;";
        String[] texts = {"l2;c0 1 1 0 0;c1 1 1 0 1;k1;k2;", "l2;c0 1 1 0 0;k1;", "l8;", "", much};
        for (String text : texts) {
            Deed alone = x -> loomOf(x, text);
            alike("behind four other texts, " + text, x -> {
                loomOf(x, much);
                x.pick(80, 3);
                loomOf(x, "l3;c2 2 2 2 0;k1;y2 3;");
                loomOf(x, "l8;c7 6 5 4 1;c7 6 5 4 1;k1;k2;y1 9;?");
                x.pick(1, 2);
                loomOf(x, "l4;c3 2 1 0 1;c3 3 3 3 1;c3 3 3 3 0;k1;k2;k4;y0 9;");
                loomOf(x, text);
            }, alone, true);
        }
        for (String text : new String[] {"k1;", "k2;", "c0 0 0 0 0;"}) {
            CardBand x = woven("l1;" + "c0 0 0 0 0;".repeat(8) + "k1;k2;k4;k8;");
            due("a fault", loomOf(x, "l1;" + "c0 0 0 0 0;".repeat(8) + "k1;k2;k4;?"), -11);
            due("the next text with " + text, loomOf(x, "l1;c0 0 0 0 0;c0 0 0 0 0;" + text), text.charAt(0) == 'c' ? 3 : 2);
        }
    }

    @Says({"how many CARDS"})
    static void promise03_loom_howManyCards_0To8() {
        for (int cards = 0; cards <= 8; cards++) {
            CardBand x = new CardBand();
            due("loom()", loomOf(x, "l1;" + "c0 0 0 0 0;".repeat(cards)), cards);
            due("told(1)", x.told(1), cards);
        }
    }

    @Says({"CARDS, YARN as told"})
    static void promise03_loom_cardsAndYarnAsTold() {
        CardBand x = made(Edge::rich);
        x.loom();
        due("the same text again", loomOf(x, FOUR), 4);
        due("yarn(0)", x.yarn(0), 500);
        due("yarn(3)", x.yarn(3), 40);
        int[] ways = {0, 1, 0, 1};
        for (int c = 0; c < 4; c++) {
            due("S of card " + c, x.card(c, 4), ways[c]);
            due("hole of card " + c, x.card(c, 5), 0);
            due("twist of card " + c, x.card(c, 6), 99);
            due("card " + c + " shows", x.card(c, 7), NONE);
            due("card " + c + " slants", x.card(c, 8), NONE);
        }
    }

    @Says({"CARDS, YARN as told"})
    static void promise03_loom_allEightCardsAsTold() {
        String text = "l1;" + "c0 0 0 0 1;c0 0 0 0 0;".repeat(4) + "k255;";
        CardBand x = woven(text);
        for (int times = 0; times < 3; times++) {
            for (int c = 0; c < 8; c++) {
                due("S of card " + c, x.card(c, 4), 1 - c % 2);
                due("hole of card " + c, x.card(c, 5), 0);
                due("twist of card " + c, x.card(c, 6), 99);
                due("card " + c + " shows", x.card(c, 7), NONE);
                due("card " + c + " slants", x.card(c, 8), NONE);
                x.flip(c);
            }
            x.pick(1, 3);
            due("the same text again", times < 2 ? loomOf(x, text) : 8, 8);
        }
    }

    @Says({"THE BAND is empty, no PICKS"})
    static void promise03_loom_theBandIsEmptyNoPicks() {
        CardBand x = made(Edge::rich);
        x.loom();
        loomOf(x, FOUR);
        due("picks", x.told(4), 0);
        due("rows", x.told(5), 0);
        due("row(0, 0)", x.row(0, 0), NONE);
        due("period", x.told(7), 0);
        due("longest", x.told(8), NONE);
        due("shown(0)", x.shown(0), 0);
    }

    @Says({"nothing SEEN, no BOOK"})
    static void promise03_loom_nothingSeenNoBook() {
        CardBand x = made(Edge::rich);
        due("loom()", x.loom(), 1);
        due("seen", x.told(11), 0);
        due("book", x.told(12), 0);
        due("holes(0)", x.holes(0), 15);
        due("judge()", x.judge(), NONE);
        due("tear()", x.tear(), 0);
    }

    @Says({"IMAGES, what could be undone are gone"})
    static void promise03_loom_imagesAndDeedsAreGone() {
        CardBand x = made(Edge::rich);
        due("loom()", x.loom(), 1);
        due("goBack(0)", x.goBack(0), NOT);
        due("goBack(1)", x.goBack(1), NOT);
        due("told(13)", x.told(13), 0);
        due("undo(1)", x.undo(1), NOT);
    }

    @Says({"THE SEED stays"})
    static void promise03_loom_theSeedStays() {
        CardBand x = new CardBand();
        x.seed(2147483647);
        loomOf(x, FOUR);
        due("behind a text", x.seed(5), 2147483647);
        x.loom();
        due("behind an empty text", x.seed(0), 5);
    }

    @Says({"-10 less the number of its FAULT"})
    static void promise03_loom_minus10LessTheNumberOfItsFault() {
        due("fault 1", loomOf(new CardBand(), "x"), -11);
        due("fault 2", loomOf(new CardBand(), "l0;"), -12);
        due("fault 3", loomOf(new CardBand(), "l1;l1;"), -13);
        due("fault 4", loomOf(new CardBand(), "l1;c0 0 0 0 0;k1;k1;"), -14);
    }

    @Says({"(all else is as it was)"})
    static void promise03_loom_withAFaultAllElseIsAsItWas() {
        String[] faulty = {"x", "l2;c1 0 1 0 1;c0 0 0 0 0;k3;y0 7;y1 8;?", "l8;c7 7 7 7 1;k2;", "l1;c0 0 0 0 0;k1;k1;", "l1;l1;"};
        for (String text : faulty) {
            alike("behind the faulty text " + text, x -> {
                rich(x);
                x.loom();
                loomOf(x, FOUR);
                deeds(x);
                due("loom() of " + text, loomOf(x, text) < -10 ? 1 : 0, 1);
            }, x -> {
                rich(x);
                x.loom();
                loomOf(x, FOUR);
                deeds(x);
            }, false);
        }
    }

    private static void deeds(CardBand x) {
        x.pick(4, 2);
        x.keep(0);
        x.seed(11);
        x.pick(5, 3);
        x.keep(1);
        x.flip(2);
        x.drift(2);
        x.buy(0, 1);
        x.see(2, 2, 2);
        x.write(2, 2);
    }

    // ---- promise 4

    @Says({"The place (from 0 on) of the letter that has the FAULT of the latest loom()"})
    static void promise04_fault_placeFrom0On() {
        CardBand x = new CardBand();
        loomOf(x, "?");
        due("the first letter", x.fault(), 0);
        loomOf(x, "l?");
        due("the second letter", x.fault(), 1);
        loomOf(x, " ".repeat(239) + "?");
        due("the last letter of 240", x.fault(), 239);
        loomOf(x, " ".repeat(238) + "l1");
        due("the end behind 240", x.fault(), 240);
    }

    @Says({"of the latest loom(); NONE."})
    static void promise04_fault_ofTheLatestLoomElseNone() {
        CardBand x = new CardBand();
        due("no loom() yet", x.fault(), NONE);
        loomOf(x, "l1;?");
        due("behind a fault", x.fault(), 3);
        feedAll(x, "l1;");
        due("letters come, the latest loom() is the same", x.fault(), 3);
        x.loom();
        due("behind a good text", x.fault(), NONE);
        loomOf(x, "l1;c0 0 0 0 0;k2;");
        due("behind a fault again", x.fault(), 15);
        x.loom();
        due("behind an empty text", x.fault(), NONE);
        loomOf(x, "k");
        loomOf(x, "  ");
        due("behind blanks alone", x.fault(), NONE);
    }

    // ---- promise 5

    @Says({"OUTSIDE."})
    static void promise05_told_whatOutside() {
        CardBand x = woven(FOUR);
        due("told(-1)", x.told(-1), OUTSIDE);
        due("told(0)", x.told(0), 4);
        due("told(13)", x.told(13), 0);
        due("told(14)", x.told(14), OUTSIDE);
        due("told(MIN)", x.told(MIN), OUTSIDE);
        due("told(MAX)", x.told(MAX), OUTSIDE);
        due("told(14) without a loom", new CardBand().told(14), OUTSIDE);
    }

    @Says({"0 COLOURS, 1 CARDS, 2 PACKS, 3 letters of THE TEXT, 4 PICKS, 5 ROWS of THE BAND"})
    static void promise05_told_countsFromNoneToMost() {
        CardBand x = woven("l8;" + "c0 0 0 0 0;".repeat(8) + "k1;k2;k4;k8;");
        due("colours", x.told(0), 8);
        due("cards", x.told(1), 8);
        due("packs", x.told(2), 4);
        due("letters", x.told(3), 0);
        x.feed(0);
        due("one letter", x.told(3), 1);
        due("picks", x.told(4), 0);
        rest(x, 23);
        due("23 rows", x.told(5), 23);
        rest(x, 1);
        due("24 rows", x.told(5), 24);
        rest(x, 1);
        due("24 rows still", x.told(5), 24);
        due("25 picks", x.told(4), 25);
    }

    @Says({"6 MIRRORED, 7 PERIOD, 8 LONGEST, 9 MOST"})
    static void promise05_told_whatTheBandShows() {
        CardBand x = woven("l3;c0 1 2 0 0;c1 1 1 1 0;c0 1 2 0 0;k7;");
        x.pick(1, 4);
        due("mirrored: 010 111 212 010", x.told(6), 4);
        due("period", x.told(7), 3);
        due("longest", x.told(8), 1);
        due("most: 0 four, 1 six, 2 two", x.told(9), 1);
    }

    @Says({"10 all YARN"})
    static void promise05_told_allYarn() {
        CardBand x = woven("l3;c0 0 0 0 0;k1;y0 1;y1 999;y2 0;");
        due("as told", x.told(10), 1000);
        x.pick(1, 1);
        due("one used", x.told(10), 999);
        x.buy(2, 999);
        due("bought", x.told(10), 1998);
        due("without a loom", new CardBand().told(10), 0);
    }

    @Says({"11 how many were SEEN, 12 entries of THE BOOK, 13 how many can be undone"})
    static void promise05_told_seenBookUndoneUpToTheirMost() {
        CardBand x = woven(FOUR);
        for (int i = 0; i < 31; i++) {
            due("seen", x.told(11), Math.min(i, 8));
            due("entries", x.told(12), Math.min(i, 20));
            due("can be undone", x.told(13), Math.min(i, 30));
            x.see(i % 4, 1, 0);
            x.write(i % 4, NONE);
            x.flip(i % 4);
        }
        due("30 can be undone", x.told(13), 30);
    }

    @Says({"OUTSIDE.", "What is refused changes nothing."})
    static void promise05_told_refusedChangesNothing() {
        refused("told(14)", x -> x.told(14), OUTSIDE);
        refused("told(-1)", x -> x.told(-1), OUTSIDE);
    }

    // ---- promise 6

    @Says({"UNKNOWN, OUTSIDE."})
    static void promise06_card_unknownCards() {
        CardBand x = woven(FOUR);
        due("card(-1, 0)", x.card(-1, 0), UNKNOWN);
        due("card(0, 0)", x.card(0, 0), 0);
        due("card(3, 3)", x.card(3, 3), 1);
        due("card(4, 0)", x.card(4, 0), UNKNOWN);
        due("card(MIN, 0)", x.card(MIN, 0), UNKNOWN);
        due("card(MAX, 0)", x.card(MAX, 0), UNKNOWN);
        CardBand eight = woven("l1;" + "c0 0 0 0 0;".repeat(8));
        due("card(7, 0) of eight", eight.card(7, 0), 0);
        due("card(8, 0) of eight", eight.card(8, 0), UNKNOWN);
    }

    @Says({"UNKNOWN, OUTSIDE."})
    static void promise06_card_whatOutside() {
        CardBand x = woven(FOUR);
        due("card(0, -1)", x.card(0, -1), OUTSIDE);
        due("card(0, 9)", x.card(0, 9), 0);
        due("card(0, 10)", x.card(0, 10), OUTSIDE);
        due("card(0, MIN)", x.card(0, MIN), OUTSIDE);
        due("card(0, MAX)", x.card(0, MAX), OUTSIDE);
    }

    @Says({"UNKNOWN, OUTSIDE."})
    static void promise06_card_unknownComesAheadOfOutside() {
        CardBand x = woven(FOUR);
        due("card(4, 10)", x.card(4, 10), UNKNOWN);
        due("card(-1, -1)", x.card(-1, -1), UNKNOWN);
    }

    @Says({"Of a CARD: what = 0 .. 3 the COLOUR of that HOLE, 4 S"})
    static void promise06_card_holes0To3AndS() {
        CardBand x = woven(FOUR);
        int[][] want = {{0, 1, 2, 3, 0}, {3, 2, 1, 0, 1}, {1, 1, 2, 2, 0}, {0, 0, 0, 1, 1}};
        for (int c = 0; c < 4; c++) {
            for (int what = 0; what < 5; what++) {
                due("card(" + c + ", " + what + ")", x.card(c, what), want[c][what]);
            }
        }
        x.pick(4, 3);
        due("turned, the hole has its colour", x.card(0, 0), 0);
    }

    @Says({"5 the HOLE where it stands, 6 TWIST and 99"})
    static void promise06_card_holeAndTwistAnd99() {
        CardBand x = woven("l1;c0 0 0 0 0;c0 0 0 0 0;k1;k2;y0 999;");
        due("hole", x.card(0, 5), 0);
        due("no twist", x.card(0, 6), 99);
        x.pick(7, 30);
        x.pick(7, 30);
        x.pick(7, 30);
        x.pick(7, 9);
        due("99 forward", x.card(0, 6), 198);
        due("99 back", x.card(1, 6), 0);
        due("hole forward", x.card(0, 5), 3);
        due("hole back", x.card(1, 5), 1);
    }

    @Says({"7 what it SHOWS (NONE), 8 how it SLANTS (NONE), 9 its PACK (NONE)"})
    static void promise06_card_showsSlantsPackOrNone() {
        CardBand x = woven(FOUR);
        for (int c = 0; c < 4; c++) {
            due("shows nothing yet", x.card(c, 7), NONE);
            due("slants no way yet", x.card(c, 8), NONE);
        }
        due("pack of card 0", x.card(0, 9), 0);
        due("pack of card 1", x.card(1, 9), 1);
        due("pack of card 2", x.card(2, 9), 0);
        due("card 3 is in none", x.card(3, 9), NONE);
        x.pick(4, 1);
        due("card 1 shows hole 0", x.card(1, 7), 3);
        due("card 3 shows nothing still", x.card(3, 7), NONE);
        due("card 3 slants no way still", x.card(3, 8), NONE);
    }

    @Says({"UNKNOWN, OUTSIDE.", "What is refused changes nothing."})
    static void promise06_card_refusedChangesNothing() {
        refused("card(4, 0)", x -> x.card(4, 0), UNKNOWN);
        refused("card(0, 10)", x -> x.card(0, 10), OUTSIDE);
    }

    // ---- promise 7

    @Says({"The SET of a PACK. UNKNOWN."})
    static void promise07_pack_setOrUnknown() {
        CardBand x = woven(FOUR);
        due("pack(-1)", x.pack(-1), UNKNOWN);
        due("pack(0)", x.pack(0), 5);
        due("pack(1)", x.pack(1), 2);
        due("pack(2)", x.pack(2), UNKNOWN);
        due("pack(MIN)", x.pack(MIN), UNKNOWN);
        due("pack(MAX)", x.pack(MAX), UNKNOWN);
        CardBand eight = woven("l1;" + "c0 0 0 0 0;".repeat(8) + "k128;k1;k2;k124;");
        due("pack(0) of four", eight.pack(0), 128);
        due("pack(3) of four", eight.pack(3), 124);
        due("pack(4) of four", eight.pack(4), UNKNOWN);
    }

    @Says({"UNKNOWN."})
    static void promise07_pack_thePacksOfTheLatestLoomAlone() {
        CardBand x = woven(FOUR);
        loomOf(x, "l1;c0 0 0 0 0;");
        due("pack(0)", x.pack(0), UNKNOWN);
    }

    @Says({"UNKNOWN.", "What is refused changes nothing."})
    static void promise07_pack_refusedChangesNothing() {
        refused("pack(2)", x -> x.pack(2), UNKNOWN);
        refused("pack(-1)", x -> x.pack(-1), UNKNOWN);
    }

    // ---- promise 8

    @Says({"YARN of a COLOUR. UNKNOWN."})
    static void promise08_yarn_ofAColourOrUnknown() {
        CardBand x = woven(FOUR);
        due("yarn(-1)", x.yarn(-1), UNKNOWN);
        due("yarn(0)", x.yarn(0), 500);
        due("yarn(3)", x.yarn(3), 40);
        due("yarn(4)", x.yarn(4), UNKNOWN);
        due("yarn(MIN)", x.yarn(MIN), UNKNOWN);
        due("yarn(MAX)", x.yarn(MAX), UNKNOWN);
        due("yarn(7) of eight", woven("l8;").yarn(7), 500);
        due("yarn(8) of eight", woven("l8;").yarn(8), UNKNOWN);
        loomOf(x, "l1;");
        due("yarn(1) of the next loom", x.yarn(1), UNKNOWN);
    }

    @Says({"YARN of a COLOUR. UNKNOWN.", "What is refused changes nothing."})
    static void promise08_yarn_refusedChangesNothing() {
        refused("yarn(4)", x -> x.yarn(4), UNKNOWN);
        refused("yarn(-1)", x -> x.yarn(-1), UNKNOWN);
    }

    // ---- promise 9

    @Says({"Of the i-th ROW of THE BAND (0 the latest) what a CARD SHOWED"})
    static void promise09_row_0IsTheLatest() {
        CardBand x = woven(FOUR);
        x.pick(4, 3);
        due("row(0, 0)", x.row(0, 0), 2);
        due("row(1, 0)", x.row(1, 0), 1);
        due("row(2, 0)", x.row(2, 0), 0);
        due("row(0, 1)", x.row(0, 1), 1);
        due("row(2, 1)", x.row(2, 1), 3);
    }

    @Says({"NONE (no such ROW, too)"})
    static void promise09_row_noneWhereItShowedNothing() {
        CardBand x = woven(FOUR);
        x.pick(1, 1);
        due("row(0, 1)", x.row(0, 1), NONE);
        due("row(0, 3)", x.row(0, 3), NONE);
        due("row(0, 2)", x.row(0, 2), 1);
    }

    @Says({"NONE (no such ROW, too)"})
    static void promise09_row_noneWhereThereIsNoSuchRow() {
        CardBand x = woven(FOUR);
        due("row(0, 0) of none", x.row(0, 0), NONE);
        x.pick(1, 1);
        due("row(-1, 0)", x.row(-1, 0), NONE);
        due("row(1, 0)", x.row(1, 0), NONE);
        due("row(MIN, 0)", x.row(MIN, 0), NONE);
        due("row(MAX, 0)", x.row(MAX, 0), NONE);
        rest(x, 22);
        due("row(22, 0) of 23", x.row(22, 0), 0);
        due("row(23, 0) of 23", x.row(23, 0), NONE);
        rest(x, 1);
        due("row(23, 0) of 24", x.row(23, 0), 0);
        due("row(24, 0) of 24", x.row(24, 0), NONE);
        rest(x, 1);
        due("row(23, 0) of 25", x.row(23, 0), 0);
        due("row(24, 0) of 25", x.row(24, 0), NONE);
    }

    @Says({"UNKNOWN."})
    static void promise09_row_unknownCards() {
        CardBand x = woven(FOUR);
        x.pick(1, 1);
        due("row(0, -1)", x.row(0, -1), UNKNOWN);
        due("row(0, 3)", x.row(0, 3), NONE);
        due("row(0, 4)", x.row(0, 4), UNKNOWN);
        due("row(0, MIN)", x.row(0, MIN), UNKNOWN);
        due("row(0, MAX)", x.row(0, MAX), UNKNOWN);
        due("no such row, no such card", x.row(99, 4), UNKNOWN);
    }

    @Says({"UNKNOWN.", "What is refused changes nothing."})
    static void promise09_row_refusedChangesNothing() {
        refused("row(0, 4)", x -> x.row(0, 4), UNKNOWN);
        refused("row(99, 0)", x -> x.row(99, 0), NONE);
    }
}
