/** Promises 1 to 9: a new object, the text with its faults, what is told. */
public final class LoomTest {
    private static final int NONE = Checks.NONE, UNKNOWN = Checks.UNKNOWN, OUTSIDE = Checks.OUTSIDE, FULL = Checks.FULL;
    private static final String FOUR = "l3;c0 1 2 1 0;c1 1 0 0 1;c0 1 2 1 1;c2 2 2 2 0;k5;k2;y2 9;";
    private static final Checks checks = new Checks();

    public static void main(String[] args) {
        newObject();
        feed();
        loom();
        faults();
        faultsOfNumbers();
        faultsOfSets();
        faultPlace();
        told();
        card();
        packAndYarn();
        row();
        checks.end();
    }

    private static void newObject() {
        checks.promise(1);
        CardBand x = new CardBand();
        int[] due = {0, 0, 0, 0, 0, 0, 0, 0, NONE, NONE, 0, 0, 0, 0};
        for (int what = 0; what < due.length; what++) {
            checks.due("told(" + what + ")", x.told(what), due[what]);
        }
        checks.due("fault()", x.fault(), NONE);
        checks.due("card(0, 0)", x.card(0, 0), UNKNOWN);
        checks.due("pack(0)", x.pack(0), UNKNOWN);
        checks.due("yarn(0)", x.yarn(0), UNKNOWN);
        checks.due("row(0, 0)", x.row(0, 0), UNKNOWN);
        checks.due("pick(0, 1)", x.pick(0, 1), Checks.NOT);
        checks.due("drift(1)", x.drift(1), Checks.NOT);
        checks.due("undo(1)", x.undo(1), Checks.NOT);
        checks.due("lasts(0, 0)", x.lasts(0, 0), Checks.NOT);
        checks.due("untwist(0)", x.untwist(0), Checks.NOT);
        checks.due("home(1)", x.home(1), Checks.NOT);
        checks.due("repeat()", x.repeat(), Checks.NOT);
        checks.due("together(0, 0, 0)", x.together(0, 0, 0), UNKNOWN);
        checks.due("alike(-1)", x.alike(-1), 0);
        checks.due("share(7, -1)", x.share(7, -1), 7);
        checks.due("judge()", x.judge(), NONE);
        checks.due("tear()", x.tear(), 0);
        checks.due("seed(5)", x.seed(5), 0);
        checks.due("goBack(0)", x.goBack(0), Checks.NOT);
        checks.due("loom()", x.loom(), 0);
    }

    private static void feed() {
        checks.promise(2);
        CardBand x = new CardBand();
        checks.due("feed(-1)", x.feed(-1), OUTSIDE);
        checks.due("feed(256)", x.feed(256), OUTSIDE);
        checks.due("feed(MIN)", x.feed(Integer.MIN_VALUE), OUTSIDE);
        checks.due("feed(0)", x.feed(0), 1);
        checks.due("feed(255)", x.feed(255), 2);
        for (int i = 3; i <= 240; i++) {
            checks.due("feed(32)", x.feed(32), i);
        }
        checks.due("feed(32) again", x.feed(32), FULL);
        checks.due("feed(256) when full", x.feed(256), OUTSIDE);
        checks.due("told(3)", x.told(3), 240);
        checks.due("loom()", x.loom(), -11);
        checks.due("told(3) behind it", x.told(3), 0);
        checks.due("feed(32) behind it", x.feed(32), 1);
    }

    private static int loomOf(CardBand x, String text) {
        Checks.feedAll(x, text);
        return x.loom();
    }

    private static void loom() {
        checks.promise(3);
        CardBand x = new CardBand();
        checks.due("four cards", loomOf(x, FOUR), 4);
        checks.due("letters of the text", x.told(3), 0);
        x.pick(4, 2);
        x.see(0, 1, 1);
        x.write(0, 1);
        x.seed(77);
        x.keep(1);
        x.flip(0);
        checks.due("a fault", loomOf(x, "l3;x"), -11);
        checks.due("cards behind a fault", x.told(1), 4);
        checks.due("picks behind a fault", x.told(4), 2);
        checks.due("seen behind a fault", x.told(11), 1);
        checks.due("book behind a fault", x.told(12), 1);
        checks.due("deeds behind a fault", x.told(13), 1);
        checks.due("image behind a fault", x.goBack(1), 1);
        x.flip(0);
        checks.due("a text with blanks", loomOf(x, "  l  2 ;  c 0 1  0 1 1 ;y 1 007 ; k 1 ;  "), 1);
        checks.due("colours", x.told(0), 2);
        checks.due("packs", x.told(2), 1);
        checks.due("picks", x.told(4), 0);
        checks.due("rows", x.told(5), 0);
        checks.due("yarn 1", x.yarn(1), 7);
        checks.due("all yarn", x.told(10), 507);
        checks.due("seen", x.told(11), 0);
        checks.due("book", x.told(12), 0);
        checks.due("deeds", x.told(13), 0);
        checks.due("image", x.goBack(1), Checks.NOT);
        checks.due("seed stays", x.seed(0), 77);
        checks.due("twist", x.card(0, 6), 99);
        checks.due("pack 0", x.pack(0), 1);
        checks.due("a loom without cards", loomOf(x, "l8;"), 0);
        checks.due("its colours", x.told(0), 8);
        checks.due("its yarn", x.told(10), 4000);
        checks.due("a pick without cards", x.pick(0, 3), 3);
        checks.due("blanks alone", loomOf(x, "   "), 0);
        checks.due("no colours", x.told(0), 0);
        checks.due("no yarn", x.yarn(0), UNKNOWN);
        checks.due("no loom", x.repeat(), Checks.NOT);
        checks.due("the latest yarn holds", loomOf(x, "l1;y0 3;y0 999;"), 0);
        checks.due("yarn", x.yarn(0), 999);
    }

    private static void fault(String text, int number, int place) {
        CardBand x = new CardBand();
        checks.due("loom of \"" + text + "\"", loomOf(x, text), -10 - number);
        checks.due("fault of \"" + text + "\"", x.fault(), place);
    }

    private static void faults() {
        checks.promise(3);
        fault("x", 1, 0);
        fault("  ;", 1, 2);
        fault("1", 1, 0);
        fault("\n", 1, 0);
        fault("c0 0 0 0 0;", 1, 0);
        fault("y0 1;l1;", 1, 0);
        fault("k1;", 1, 0);
        fault("l", 1, 1);
        fault("l ", 1, 2);
        fault("l3", 1, 2);
        fault("l3   ", 1, 5);
        fault("l3 4;", 1, 3);
        fault("l3 4444;", 1, 3);
        fault("l-1;", 1, 1);
        fault("l1;;", 1, 3);
        fault("l1;5", 1, 3);
        fault("L1;", 1, 0);
        fault("l1;c0 0 0 0;", 1, 11);
        fault("l1;c0 0 0 0 0 0;", 1, 14);
        fault("l1;cc0 0 0 0 0;", 1, 4);
        fault("l1;y0;", 1, 5);
        fault("l1;y0 1", 1, 7);
        fault("l1l1;", 1, 2);
        fault("l1;l1;", 3, 3);
        fault("l1;lx", 3, 3);
        String nine = "l1;";
        for (int i = 0; i < 8; i++) {
            nine = nine + "c0 0 0 0 0;";
        }
        checks.due("eight cards", loomOf(new CardBand(), nine), 8);
        fault(nine + "c0 0 0 0 0;", 3, 91);
        fault(nine + "c", 3, 91);
        fault(nine + "k1;k2;k4;k8;k16;", 3, 103);
        checks.due("four packs", loomOf(new CardBand(), nine + "k1;k2;k4;k240;"), 8);
    }

    private static void faultsOfNumbers() {
        checks.promise(3);
        fault("l0;", 2, 1);
        fault("l9;", 2, 1);
        fault("l000;", 2, 1);
        fault("l0001;", 2, 1);
        fault("l 1234", 2, 2);
        fault("l99999999999999999999;", 2, 1);
        fault("l4294967297;", 2, 1);
        fault("l9x", 2, 1);
        fault("l2;c0 1 2 0 0;", 2, 8);
        fault("l2;c0 1 1 0 2;", 2, 12);
        fault("l2;c01100;", 2, 4);
        fault("l2;c0 1 1 0 2;x", 2, 12);
        fault("l2;y2 5;", 2, 4);
        fault("l2;y1 1000;", 2, 6);
        fault("l2;y1 0000;", 2, 6);
        checks.due("three figures", loomOf(new CardBand(), "l008;y7 000;y007 999;c007 7 07 7 001;"), 1);
    }

    private static void faultsOfSets() {
        checks.promise(3);
        String two = "l1;c0 0 0 0 0;c0 0 0 0 0;";
        fault("l1;k1;", 2, 4);
        fault(two + "k0;", 2, 26);
        fault(two + "k4;", 2, 26);
        fault(two + "k256;", 2, 26);
        fault(two + "k255;", 2, 26);
        fault(two + "k 7;", 2, 27);
        fault(two + "k1;k1;", 4, 29);
        fault(two + "k1;k3;", 4, 29);
        fault(two + "k1;k5;", 2, 29);
        fault(two + "k3;k", 1, 29);
        fault(two + "k1;k 1x", 4, 30);
        checks.due("a card behind a pack", loomOf(new CardBand(), "l1;c0 0 0 0 0;k1;c0 0 0 0 0;k2;"), 2);
    }

    private static void faultPlace() {
        checks.promise(4);
        CardBand x = new CardBand();
        checks.due("at first", x.fault(), NONE);
        loomOf(x, "l1;?");
        checks.due("behind a fault", x.fault(), 3);
        x.feed('l');
        checks.due("while a text comes", x.fault(), 3);
        Checks.feedAll(x, "1;");
        checks.due("the text", x.loom(), 0);
        checks.due("behind a good text", x.fault(), NONE);
        loomOf(x, "l");
        checks.due("at the end", x.fault(), 1);
        x.loom();
        checks.due("behind an empty text", x.fault(), NONE);
    }

    private static void told() {
        checks.promise(5);
        CardBand x = Checks.woven(FOUR);
        checks.due("told(-1)", x.told(-1), OUTSIDE);
        checks.due("told(14)", x.told(14), OUTSIDE);
        checks.due("colours", x.told(0), 3);
        checks.due("cards", x.told(1), 4);
        checks.due("packs", x.told(2), 2);
        checks.due("yarn", x.told(10), 1009);
        x.feed('l');
        checks.due("letters", x.told(3), 1);
        x.pick(4, 1);
        checks.due("picks", x.told(4), 1);
        checks.due("rows", x.told(5), 1);
        checks.due("yarn behind a pick", x.told(10), 1006);
        checks.due("period of one row", x.told(7), 1);
        checks.due("longest of one row", x.told(8), 0);
        checks.due("most: 0 twice, 1 once", x.told(9), 0);
        x.see(0, 1, 0);
        x.see(0, 1, 0);
        x.write(1, NONE);
        checks.due("seen", x.told(11), 2);
        checks.due("book", x.told(12), 1);
        x.flip(1);
        x.shift(1, 2);
        checks.due("deeds", x.told(13), 3);
        toldOfBand();
        toldMostAndLongest();
    }

    private static void toldOfBand() {
        CardBand x = Checks.woven("l2;c0 0 1 1 0;c1 1 0 0 0;c0 0 1 1 0;k5;k2;");
        x.pick(4, 2);
        checks.due("rows 010 010 are mirrored", x.told(6), 2);
        checks.due("period 1", x.told(7), 1);
        x.pick(4, 2);
        checks.due("rows 101 are, too", x.told(6), 4);
        checks.due("rows 010 010 101 101", x.told(7), 4);
        x.pick(4, 2);
        checks.due("period 4", x.told(7), 4);
        x.pick(4, 30);
        checks.due("picks", x.told(4), 36);
        checks.due("rows kept", x.told(5), 24);
        checks.due("all mirrored", x.told(6), 24);
        checks.due("period 4 of many", x.told(7), 4);
        x.shift(2, 1);
        x.pick(4, 1);
        checks.due("one row is not mirrored", x.told(6), 24);
        x.pick(4, 1);
        checks.due("another one is", x.told(6), 23);
        CardBand y = Checks.woven("l2;c0 1 0 1 0;c0 0 0 0 0;c0 0 0 0 0;k1;");
        y.pick(0, 2);
        checks.due("rows that show nothing are mirrored", y.told(6), 2);
        checks.due("float none, the least card is longest", y.told(8), 0);
        checks.due("none is shown most", y.told(9), NONE);
        checks.due("alike rows", y.told(7), 1);
        y.pick(1, 1);
        checks.due("0 and nothing are not alike", y.told(6), 2);
        checks.due("no row is like the latest", y.told(7), 3);
        CardBand w = Checks.woven("l2;c0 0 1 0 0;c0 1 1 0 0;c1 1 1 1 0;c0 0 1 0 0;c0 0 1 0 0;k31;");
        w.pick(1, 1);
        checks.due("00100", w.told(6), 1);
        w.pick(1, 1);
        checks.due("01100 is not, by its inner cards", w.told(6), 1);
        w.pick(1, 1);
        checks.due("11111", w.told(6), 2);
        CardBand z = Checks.woven("l1;");
        z.pick(0, 2);
        checks.due("no cards: mirrored", z.told(6), 2);
        checks.due("no cards: period", z.told(7), 1);
        checks.due("no cards: longest", z.told(8), NONE);
        checks.due("no cards: most", z.told(9), NONE);
    }

    private static void toldMostAndLongest() {
        CardBand x = Checks.woven("l3;c2 1 1 2 0;c1 2 2 1 0;c0 1 2 0 0;k7;");
        x.pick(1, 1);
        checks.due("like floats, the least", x.told(8), 0);
        checks.due("each colour once, the least", x.told(9), 0);
        x.pick(1, 2);
        checks.due("0 once, 1 four, 2 four", x.told(9), 1);
        checks.due("two rows alike", x.told(8), 0);
        x.pick(1, 1);
        checks.due("0 twice, 1 and 2 five times", x.told(9), 1);
        x.pick(1, 1);
        checks.due("float of card 0: 2 1 1 2 2", x.floats(0), 2);
        CardBand y = Checks.woven("l2;c0 1 0 1 0;c1 1 1 0 0;k3;");
        y.pick(1, 3);
        checks.due("card 1 is longest", y.told(8), 1);
        checks.due("colour 1 is shown most", y.told(9), 1);
    }

    private static void card() {
        checks.promise(6);
        CardBand x = Checks.woven(FOUR);
        int[] due = {1, 1, 0, 0, 1, 0, 99, NONE, NONE, 1};
        for (int what = 0; what < due.length; what++) {
            checks.due("card(1, " + what + ")", x.card(1, what), due[what]);
        }
        checks.due("in no pack", x.card(3, 9), NONE);
        x.pick(2 + 3, 1);
        int[] back = {0, 1, 2, 1, 0, 3, 98, 1, 1, 0};
        int[] forward = {1, 1, 0, 0, 1, 1, 100, 1, 1, 1};
        for (int what = 0; what < 10; what++) {
            checks.due("turned back, card(0, " + what + ")", x.card(0, what), back[what]);
            checks.due("turned forward, card(1, " + what + ")", x.card(1, what), forward[what]);
        }
        checks.due("threaded the other way, turned back", x.card(2, 8), 0);
        x.pick(1, 1);
        checks.due("not turned: hole", x.card(1, 5), 1);
        checks.due("not turned: twist", x.card(1, 6), 100);
        checks.due("not turned: shows", x.card(1, 7), 1);
        checks.due("not turned: slants", x.card(1, 8), 1);
        checks.due("behind 3 is 0", x.card(0, 5), 0);
        checks.due("hole 3 is shown", x.card(0, 7), 1);
        checks.due("twist is gone", x.card(0, 6), 99);
        checks.due("card(4, 0)", x.card(4, 0), UNKNOWN);
        checks.due("card(-1, 0)", x.card(-1, 0), UNKNOWN);
        checks.due("card(8, 99)", x.card(8, 99), UNKNOWN);
        checks.due("card(0, -1)", x.card(0, -1), OUTSIDE);
        checks.due("card(0, 10)", x.card(0, 10), OUTSIDE);
    }

    private static void packAndYarn() {
        CardBand x = Checks.woven(FOUR);
        checks.promise(7);
        checks.due("pack(0)", x.pack(0), 5);
        checks.due("pack(1)", x.pack(1), 2);
        checks.due("pack(2)", x.pack(2), UNKNOWN);
        checks.due("pack(-1)", x.pack(-1), UNKNOWN);
        checks.due("pack(MAX)", x.pack(Integer.MAX_VALUE), UNKNOWN);
        checks.promise(8);
        checks.due("yarn(0)", x.yarn(0), 500);
        checks.due("yarn(2)", x.yarn(2), 9);
        checks.due("yarn(3)", x.yarn(3), UNKNOWN);
        checks.due("yarn(-1)", x.yarn(-1), UNKNOWN);
        x.pick(1, 3);
        checks.due("yarn(0) behind 0 1 2 by two cards", x.yarn(0), 498);
        checks.due("yarn(1)", x.yarn(1), 498);
        checks.due("yarn(2)", x.yarn(2), 7);
    }

    private static void row() {
        checks.promise(9);
        CardBand x = Checks.woven(FOUR);
        checks.due("no row", x.row(0, 0), NONE);
        x.pick(1, 3);
        x.pick(3, 1);
        int[] due = {2, 2, 1, 0};
        for (int i = 0; i < due.length; i++) {
            checks.due("row(" + i + ", 0)", x.row(i, 0), due[i]);
        }
        checks.due("row(0, 1)", x.row(0, 1), 1);
        checks.due("row(1, 1)", x.row(1, 1), NONE);
        checks.due("row(0, 3)", x.row(0, 3), NONE);
        checks.due("row(4, 0)", x.row(4, 0), NONE);
        checks.due("row(-1, 0)", x.row(-1, 0), NONE);
        checks.due("row(MIN, 0)", x.row(Integer.MIN_VALUE, 0), NONE);
        checks.due("row(MAX, 0)", x.row(Integer.MAX_VALUE, 0), NONE);
        checks.due("row(0, 4)", x.row(0, 4), UNKNOWN);
        checks.due("row(0, -1)", x.row(0, -1), UNKNOWN);
        checks.due("row(99, 4)", x.row(99, 4), UNKNOWN);
        x.pick(0, 30);
        checks.due("row(23, 0)", x.row(23, 0), 2);
        checks.due("row(24, 0)", x.row(24, 0), NONE);
    }
}
