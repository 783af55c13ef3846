/** Promises 16 to 27: what is tried from now, what the band tells. */
public final class TriedTest {
    private static final int NONE = Checks.NONE, UNKNOWN = Checks.UNKNOWN, OUTSIDE = Checks.OUTSIDE, NOT = Checks.NOT;
    private static final String TWO_PACKS = "l3;c0 1 2 1 0;c1 1 0 0 1;c0 1 2 1 1;c2 2 2 2 0;k5;k2;y2 9;";
    private static final Checks checks = new Checks();

    public static void main(String[] args) {
        ahead();
        lasts();
        lastsBounds();
        untwist();
        home();
        together();
        togetherBounds();
        repeat();
        floats();
        alike();
        shown();
        turned();
        turnedByRows();
        share();
        plain();
        checks.end();
    }

    private static void ahead() {
        checks.promise(16);
        CardBand x = Checks.woven("l4;c0 1 2 3 0;c3 2 1 0 1;k1;");
        int[] forward = {0, 1, 2, 3, 0, 1};
        int[] back = {3, 2, 1, 0, 3, 2};
        for (int n = 1; n <= 6; n++) {
            checks.due("ahead(0, " + n + ", 0)", x.ahead(0, n, 0), forward[n - 1]);
            checks.due("ahead(0, " + n + ", 1)", x.ahead(0, n, 1), back[n - 1]);
        }
        checks.due("ahead(0, 99, 0)", x.ahead(0, 99, 0), 2);
        checks.due("ahead(0, 99, 1)", x.ahead(0, 99, 1), 1);
        checks.due("of no pack", x.ahead(1, 1, 0), 3);
        checks.due("nothing changes", x.card(0, 5), 0);
        x.shift(0, 3);
        checks.due("from hole 3", x.ahead(0, 2, 0), 0);
        checks.due("back from hole 3", x.ahead(0, 1, 1), 2);
        checks.due("ahead(2, 0, 2)", x.ahead(2, 0, 2), UNKNOWN);
        checks.due("ahead(-1, 1, 0)", x.ahead(-1, 1, 0), UNKNOWN);
        checks.due("ahead(0, 0, 0)", x.ahead(0, 0, 0), OUTSIDE);
        checks.due("ahead(0, 100, 0)", x.ahead(0, 100, 0), OUTSIDE);
        checks.due("ahead(0, 1, 2)", x.ahead(0, 1, 2), OUTSIDE);
        checks.due("ahead(0, 1, -1)", x.ahead(0, 1, -1), OUTSIDE);
    }

    private static void lasts() {
        checks.promise(17);
        CardBand x = Checks.woven(TWO_PACKS);
        checks.due("lasts(1, 0)", x.lasts(1, 0), 18);
        checks.due("lasts(1, 1)", x.lasts(1, 1), 2);
        checks.due("lasts(0, 0)", x.lasts(0, 0), 99);
        checks.due("lasts(0, 1)", x.lasts(0, 1), NONE);
        checks.due("lasts(3, 0)", x.lasts(3, 0), 99);
        checks.due("lasts(3, 1)", x.lasts(3, 1), NONE);
        checks.due("nothing changes", x.told(10), 1009);
        checks.due("no picks", x.told(4), 0);
        CardBand y = Checks.woven("l3;c2 2 2 2 0;c1 1 1 1 0;k3;y1 0;y2 0;");
        checks.due("none at all", y.lasts(1, 0), 0);
        checks.due("of like ones the least", y.lasts(1, 1), 1);
        y.buy(1, 5);
        checks.due("the first that lacks", y.lasts(2, 1), 2);
        y.buy(2, 6);
        checks.due("five", y.lasts(2, 0), 5);
        checks.due("now the other one", y.lasts(2, 1), 1);
        CardBand z = Checks.woven("l1;c0 0 0 0 0;k1;y0 40;");
        z.pick(1, 10);
        checks.due("yarn", z.lasts(1, 0), 30);
        z.buy(0, 999);
        z.pick(1, 30);
        z.pick(1, 30);
        checks.due("twist alone", z.lasts(1, 0), 29);
        checks.due("twist alone is no colour", z.lasts(1, 1), NONE);
        checks.due("back 99", z.lasts(2, 0), 99);
        CardBand w = Checks.woven("l1;c0 0 0 0 0;k1;y0 99;");
        w.pick(1, 30);
        w.pick(1, 30);
        w.pick(1, 29);
        checks.due("yarn and twist at once", w.lasts(1, 0), 10);
        checks.due("yarn counts", w.lasts(1, 1), 0);
    }

    private static void lastsBounds() {
        checks.promise(17);
        CardBand x = Checks.woven(TWO_PACKS);
        checks.due("lasts(-1, 0)", x.lasts(-1, 0), OUTSIDE);
        checks.due("lasts(81, 0)", x.lasts(81, 0), OUTSIDE);
        checks.due("lasts(9, 0)", x.lasts(9, 0), OUTSIDE);
        checks.due("lasts(0, 2)", x.lasts(0, 2), OUTSIDE);
        checks.due("lasts(0, -1)", x.lasts(0, -1), OUTSIDE);
        CardBand none = new CardBand();
        checks.due("no loom", none.lasts(0, 1), NOT);
        checks.due("no loom, outside", none.lasts(0, 2), OUTSIDE);
    }

    private static void untwist() {
        checks.promise(18);
        CardBand x = Checks.woven("l1;c0 0 0 0 0;c0 0 0 0 0;c0 0 0 0 0;c0 0 0 0 0;k6;k1;k8;");
        checks.due("none is needed", x.untwist(0), 0);
        checks.due("none is needed, moves", x.untwist(1), 0);
        x.pick(1, 2);
        checks.due("two", x.untwist(0), 2);
        checks.due("pack 0 back", x.untwist(1), 2);
        x.pick(6, 5);
        checks.due("five", x.untwist(0), 5);
        checks.due("pack 1 forward", x.untwist(1), 5);
        x.pick(9, 1);
        checks.due("pack 2 back, too", x.untwist(1), 23);
        x.pick(2, 2);
        checks.due("pack 0 is there", x.untwist(1), 21);
        x.buy(0, 999);
        x.shift(1, 2);
        checks.due("yarn, holes are not looked at", x.untwist(0), 5);
        checks.due("untwist(-1)", x.untwist(-1), OUTSIDE);
        checks.due("untwist(2)", x.untwist(2), OUTSIDE);
        checks.due("no loom", new CardBand().untwist(0), NOT);
        checks.due("no loom, outside", new CardBand().untwist(2), OUTSIDE);
    }

    private static void home() {
        checks.promise(19);
        CardBand x = Checks.woven("l1;c0 0 0 0 0;c0 0 0 0 0;c0 0 0 0 0;c0 0 0 0 0;k6;k1;y0 20;");
        checks.due("none is needed", x.home(0), 0);
        checks.due("none is needed, moves", x.home(1), 0);
        x.pick(1, 1);
        checks.due("one off", x.home(0), 1);
        checks.due("one off goes back", x.home(1), 2);
        x.pick(1, 1);
        checks.due("two off", x.home(0), 2);
        checks.due("two off goes forward", x.home(1), 1);
        x.pick(1, 1);
        checks.due("three off", x.home(0), 1);
        checks.due("three off goes forward", x.home(1), 1);
        x.pick(3, 2);
        checks.due("both", x.home(0), 2);
        checks.due("both from the first on", x.home(1), 4);
        x.pick(6, 1);
        checks.due("the other one off", x.home(1), 7);
        x.shift(3, 2);
        checks.due("of no pack", x.home(0), 1);
        x.shift(1, 1);
        checks.due("a pack stands unlike", x.home(0), NONE);
        checks.due("a pack stands unlike, moves", x.home(1), NONE);
        x.shift(2, 1);
        checks.due("alike again", x.home(0), 1);
        checks.due("pack 0 is home", x.home(1), 6);
        checks.due("home(2)", x.home(2), OUTSIDE);
        checks.due("home(-1)", x.home(-1), OUTSIDE);
        checks.due("unlike, outside", unlike().home(2), OUTSIDE);
        checks.due("no loom", new CardBand().home(0), NOT);
        checks.due("no loom, outside", new CardBand().home(5), OUTSIDE);
    }

    private static CardBand unlike() {
        CardBand x = Checks.woven("l1;c0 0 0 0 0;c0 0 0 0 0;k3;");
        x.shift(0, 1);
        return x;
    }

    private static void together() {
        checks.promise(20);
        CardBand x = Checks.woven("l4;c0 1 2 3 0;c3 0 1 2 0;c1 1 1 1 0;c0 1 0 1 0;k1;k2;k4;");
        checks.due("none", x.together(0, 3, 0), 0);
        checks.due("none, moves", x.together(0, 3, 1), 0);
        checks.due("one forward", x.together(1, 0, 0), 1);
        checks.due("one forward, moves", x.together(1, 0, 1), 1);
        checks.due("one back", x.together(1, 3, 0), 1);
        checks.due("one back, moves", x.together(1, 3, 1), 2);
        checks.due("two forward", x.together(1, 1, 0), 2);
        checks.due("two forward, moves", x.together(1, 1, 1), 1);
        checks.due("two back", x.together(1, 2, 0), 2);
        checks.due("two back, moves", x.together(1, 2, 1), 2);
        checks.due("two packs, one has time", x.together(3, 2, 0), 2);
        checks.due("pack 1 waits", x.together(3, 2, 1), 2);
        checks.due("either way, the least", x.together(4, 1, 1), 9);
        checks.due("pack 2 waits", x.together(5, 1, 1), 1);
        checks.due("never", x.together(4, 0, 0), NONE);
        checks.due("never, moves", x.together(5, 0, 1), NONE);
        checks.due("of no pack", x.together(8, 0, 0), NONE);
        x.pick(1, 1);
        checks.due("it does", x.together(1, 0, 0), 0);
        checks.due("it does, moves", x.together(1, 0, 1), 0);
        checks.due("the other one does not", x.together(3, 0, 0), 2);
        checks.due("pack 0 stays", x.together(3, 0, 1), 3);
        checks.due("back to hole 0", x.together(1, 3, 0), 2);
        CardBand y = Checks.woven("l2;c0 1 1 1 0;c1 1 0 1 0;k3;y0 0;y1 0;");
        checks.due("never both", y.together(3, 0, 0), NONE);
        checks.due("both back", y.together(3, 1, 1), 2);
        y.shift(1, 2);
        checks.due("both forward, yarn is not looked at", y.together(3, 0, 0), 1);
        checks.due("nothing changes", y.told(4), 0);
    }

    private static void togetherBounds() {
        checks.promise(20);
        CardBand x = Checks.woven(TWO_PACKS);
        checks.due("together(16, 0, 0)", x.together(16, 0, 0), UNKNOWN);
        checks.due("together(-1, 0, 0)", x.together(-1, 0, 0), UNKNOWN);
        checks.due("together(MIN, 0, 9)", x.together(Integer.MIN_VALUE, 0, 9), UNKNOWN);
        checks.due("together(1, 3, 0)", x.together(1, 3, 0), UNKNOWN);
        checks.due("together(1, -1, 2)", x.together(1, -1, 2), UNKNOWN);
        checks.due("together(1, 0, 2)", x.together(1, 0, 2), OUTSIDE);
        checks.due("together(1, 0, -1)", x.together(1, 0, -1), OUTSIDE);
        checks.due("together(15, 2, 0)", x.together(15, 2, 0), NONE);
        checks.due("no loom", new CardBand().together(0, 0, 0), UNKNOWN);
        CardBand y = Checks.woven("l1;c0 0 0 0 0;c0 0 0 0 0;c0 0 0 0 0;c0 0 0 0 0;"
            + "c0 0 0 0 0;c0 0 0 0 0;c0 0 0 0 0;c0 0 0 0 0;k255;");
        checks.due("together(255, 0, 0)", y.together(255, 0, 0), 1);
        checks.due("together(256, 0, 0)", y.together(256, 0, 0), UNKNOWN);
    }

    private static void repeat() {
        checks.promise(21);
        checks.due("no loom", new CardBand().repeat(), NOT);
        checks.due("no cards", Checks.woven("l1;").repeat(), 1);
        checks.due("1", Checks.woven("l2;c0 0 0 0 0;c1 1 1 1 0;").repeat(), 1);
        checks.due("2", Checks.woven("l2;c0 0 0 0 0;c0 1 0 1 0;k1;").repeat(), 2);
        checks.due("4", Checks.woven("l2;c0 1 0 1 0;c0 0 1 1 0;").repeat(), 4);
        checks.due("4 by one hole", Checks.woven("l2;c0 0 0 1 0;").repeat(), 4);
        checks.due("4 by the last two", Checks.woven("l3;c0 1 0 2 0;").repeat(), 4);
    }

    private static void floats() {
        checks.promise(22);
        CardBand x = Checks.woven("l2;c0 0 0 1 0;c0 1 0 1 0;c0 0 0 0 0;k1;k2;");
        checks.due("no rows", x.floats(0), 0);
        x.pick(1, 2);
        checks.due("two", x.floats(0), 2);
        checks.due("nothing shown", x.floats(1), 0);
        x.pick(4, 3);
        checks.due("three and 1 and one", x.floats(0), 3);
        checks.due("0 1 0", x.floats(1), 1);
        checks.due("of no pack", x.floats(2), 0);
        x.pick(3, 30);
        checks.due("not turned, the rows that are kept", x.floats(0), 24);
        checks.due("floats(3)", x.floats(3), UNKNOWN);
        checks.due("floats(-1)", x.floats(-1), UNKNOWN);
        checks.due("no loom", new CardBand().floats(0), UNKNOWN);
    }

    private static void alike() {
        checks.promise(23);
        CardBand x = Checks.woven("l2;c0 1 0 1 0;c0 0 0 0 0;c0 1 1 1 0;c1 0 1 0 0;k3;k4;");
        int[] all = {1, 2, 3, 12, 13, 23};
        checks.due("an empty band, any two", x.alike(-1), 6);
        for (int i = 0; i < all.length; i++) {
            checks.due("alike(" + i + ")", x.alike(i), all[i]);
        }
        checks.due("alike(6)", x.alike(6), NONE);
        x.pick(4, 1);
        checks.due("0 0 0 and nothing", x.alike(-1), 3);
        checks.due("alike(2)", x.alike(2), 12);
        x.pick(4, 1);
        checks.due("0 and 2", x.alike(-1), 1);
        checks.due("alike(0)", x.alike(0), 2);
        checks.due("alike(1)", x.alike(1), NONE);
        checks.due("alike(-2)", x.alike(-2), NONE);
        checks.due("alike(MIN)", x.alike(Integer.MIN_VALUE), NONE);
        CardBand y = Checks.woven("l1;c0 0 0 0 0;c0 0 0 0 0;");
        y.pick(0, 1);
        checks.due("both showed nothing", y.alike(0), 1);
        checks.due("no loom", new CardBand().alike(-1), 0);
        checks.due("no loom, alike(0)", new CardBand().alike(0), NONE);
    }

    private static void shown() {
        checks.promise(24);
        CardBand x = Checks.woven("l3;c0 1 0 1 0;c0 0 0 0 0;c2 2 2 2 0;k3;");
        checks.due("no rows", x.shown(0), 0);
        x.pick(1, 3);
        checks.due("0: 2 and 3", x.shown(0), 5);
        checks.due("1", x.shown(1), 1);
        checks.due("2 of no pack", x.shown(2), 0);
        x.pick(0, 30);
        checks.due("24 rows at most", x.shown(0), 48);
        checks.due("shown(3)", x.shown(3), UNKNOWN);
        checks.due("shown(-1)", x.shown(-1), UNKNOWN);
        checks.due("no loom", new CardBand().shown(0), UNKNOWN);
    }

    private static void turned() {
        checks.promise(25);
        CardBand x = Checks.woven("l4;c0 1 2 3 0;c0 1 0 1 0;c0 0 0 0 0;k1;k2;");
        checks.due("turned(3, 0)", x.turned(3, 0), UNKNOWN);
        checks.due("turned(-1, 99)", x.turned(-1, 99), UNKNOWN);
        checks.due("turned(0, -1)", x.turned(0, -1), OUTSIDE);
        checks.due("turned(0, 23)", x.turned(0, 23), OUTSIDE);
        checks.due("no rows", x.turned(0, 0), NOT);
        x.pick(0, 1);
        checks.due("one row", x.turned(0, 0), NOT);
        x.pick(1, 1);
        checks.due("from nothing to 0", x.turned(0, 0), 6);
        checks.due("from nothing to nothing", x.turned(1, 0), 1);
        checks.due("no row ahead of the first", x.turned(0, 1), NOT);
        x.pick(1, 1);
        checks.due("0 then 1: forward", x.turned(0, 0), 2);
        checks.due("the rows ahead", x.turned(0, 1), 6);
        x.pick(2, 1);
        checks.due("1 then 1: any", x.turned(0, 0), 7);
        x.pick(2, 1);
        checks.due("1 then 0: back", x.turned(0, 0), 4);
        x.pick(0, 30);
        checks.due("turned(0, 22)", x.turned(0, 22), 7);
        checks.due("no loom", new CardBand().turned(0, 0), UNKNOWN);
    }

    private static void turnedByRows() {
        checks.promise(25);
        CardBand x = Checks.woven("l4;c0 1 2 3 0;c0 1 0 1 0;c0 0 1 2 0;k1;k2;k4;");
        x.pick(13, 3);
        checks.due("0 1 0", x.turned(1, 0), 6);
        checks.due("0 0 1: 0 then 1 forward", x.turned(2, 0), 2);
        checks.due("0 then 0", x.turned(2, 1), 7);
        x.shift(0, 1);
        x.pick(1, 1);
        checks.due("2 then 0: no way", x.turned(0, 0), 0);
        x.shift(0, 3);
        x.pick(1, 1);
        checks.due("0 then 0", x.turned(0, 0), 7);
        x.pick(2, 2);
        checks.due("0 then 3: back round", x.turned(0, 0), 4);
        x.pick(1, 2);
        checks.due("3 then 0: forward round", x.turned(0, 0), 2);
    }

    private static void share() {
        checks.promise(26);
        CardBand x = Checks.woven("l4;c0 1 2 1 0;c1 1 0 0 1;c0 1 2 1 1;c2 2 2 2 0;");
        checks.due("share(100, 0)", x.share(100, 0), 25);
        checks.due("share(100, 1)", x.share(100, 1), 37);
        checks.due("share(100, 2)", x.share(100, 2), 37);
        checks.due("share(100, 3)", x.share(100, 3), 0);
        checks.due("left over", x.share(100, -1), 1);
        checks.due("share(999, 1)", x.share(999, 1), 374);
        checks.due("share(999, -1)", x.share(999, -1), 2);
        checks.due("share(0, -1)", x.share(0, -1), 0);
        checks.due("share(1, -1)", x.share(1, -1), 1);
        checks.due("share(1000, 0)", x.share(1000, 0), OUTSIDE);
        checks.due("share(-1, -1)", x.share(-1, -1), OUTSIDE);
        checks.due("share(-1, 4)", x.share(-1, 4), UNKNOWN);
        checks.due("share(0, -2)", x.share(0, -2), UNKNOWN);
        CardBand y = Checks.woven("l2;");
        checks.due("no cards", y.share(50, 1), 0);
        checks.due("no cards, left over", y.share(50, -1), 50);
        checks.due("no loom", new CardBand().share(5, 0), UNKNOWN);
    }

    private static void plain() {
        checks.promise(27);
        CardBand x = new CardBand();
        checks.due("plain(0, 0)", x.plain(0, 0), 1000000000);
        checks.due("plain(1, 0)", x.plain(1, 0), 0);
        checks.due("plain(60, 100)", x.plain(60, 100), 1000000000);
        checks.due("plain(2, 90)", x.plain(2, 90), 810000000);
        checks.due("plain(5, 33)", x.plain(5, 33), 3913539);
        checks.due("plain(11, 33): cut each time", x.plain(11, 33), 5053);
        checks.due("plain(60, 99): cut each time", x.plain(60, 99), 547156620);
        checks.due("plain(60, 1)", x.plain(60, 1), 0);
        checks.due("plain(-1, 0)", x.plain(-1, 0), OUTSIDE);
        checks.due("plain(61, 0)", x.plain(61, 0), OUTSIDE);
        checks.due("plain(0, -1)", x.plain(0, -1), OUTSIDE);
        checks.due("plain(0, 101)", x.plain(0, 101), OUTSIDE);
    }
}
