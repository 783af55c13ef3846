/** Promises 34 to 36: the seed, images to go on from. */
public final class ImagesTest {
    private static final int NONE = Checks.NONE, UNKNOWN = Checks.UNKNOWN, OUTSIDE = Checks.OUTSIDE, NOT = Checks.NOT;
    private static final String TWO_PACKS = "l3;c0 1 2 1 0;c1 1 0 0 1;k1;k2;";
    private static final Checks checks = new Checks();

    public static void main(String[] args) {
        seed();
        keep();
        goBack();
        goBackToAll();
        checks.end();
    }

    private static void seed() {
        checks.promise(34);
        CardBand x = new CardBand();
        checks.due("at first", x.seed(2147483647), 0);
        checks.due("seed(-1)", x.seed(-1), OUTSIDE);
        checks.due("seed(MIN)", x.seed(Integer.MIN_VALUE), OUTSIDE);
        checks.due("as it was", x.seed(0), 2147483647);
        Checks.feedAll(x, TWO_PACKS);
        x.loom();
        x.drift(1);
        long first = 12345L;
        long second = (first * 1103515245L + 12345L) % (1L << 31);
        checks.due("two draws from 0", x.seed(2147483647), second);
        x.drift(1);
        first = (2147483647L * 1103515245L + 12345L) % (1L << 31);
        second = (first * 1103515245L + 12345L) % (1L << 31);
        checks.due("two draws from the greatest", x.seed(1), second);
    }

    private static void keep() {
        checks.promise(35);
        CardBand x = new CardBand();
        checks.due("without a loom", x.keep(0), 1);
        checks.due("keep(2)", x.keep(2), UNKNOWN);
        checks.due("keep(-1)", x.keep(-1), UNKNOWN);
        checks.due("keep(MAX)", x.keep(Integer.MAX_VALUE), UNKNOWN);
        Checks.feedAll(x, TWO_PACKS);
        x.loom();
        x.pick(1, 2);
        checks.due("keep(2) keeps the deeds", x.keep(2), UNKNOWN);
        checks.due("deeds", x.told(13), 2);
        checks.due("keep(1)", x.keep(1), 1);
        checks.due("nothing can be undone", x.told(13), 0);
        checks.due("undo(1)", x.undo(1), NOT);
        checks.due("picks", x.told(4), 2);
        x.pick(1, 1);
        checks.due("keep(1) again", x.keep(1), 1);
        x.pick(1, 1);
        x.goBack(1);
        checks.due("the later image", x.told(4), 3);
    }

    private static void goBack() {
        checks.promise(36);
        CardBand x = Checks.woven(TWO_PACKS);
        checks.due("goBack(2)", x.goBack(2), UNKNOWN);
        checks.due("goBack(-1)", x.goBack(-1), UNKNOWN);
        checks.due("not kept", x.goBack(0), NOT);
        x.pick(1, 1);
        checks.due("refused, the deed stays", x.goBack(1), NOT);
        checks.due("deeds", x.told(13), 1);
        x.keep(0);
        checks.due("the other one was not kept", x.goBack(1), NOT);
        x.pick(1, 1);
        x.keep(1);
        checks.due("goBack(0)", x.goBack(0), 1);
        checks.due("picks", x.told(4), 1);
        checks.due("nothing can be undone", x.undo(1), NOT);
        checks.due("goBack(1)", x.goBack(1), 1);
        checks.due("picks of image 1", x.told(4), 2);
        checks.due("goBack(0) once more", x.goBack(0), 1);
        checks.due("picks of image 0", x.told(4), 1);
        Checks.feedAll(x, TWO_PACKS);
        x.loom();
        checks.due("gone with the text", x.goBack(0), NOT);
        checks.due("both gone", x.goBack(1), NOT);
        CardBand none = new CardBand();
        none.seed(5);
        none.keep(0);
        none.seed(6);
        checks.due("without a loom", none.goBack(0), 1);
        checks.due("its seed", none.seed(0), 5);
    }

    private static void goBackToAll() {
        checks.promise(36);
        CardBand x = Checks.woven(TWO_PACKS);
        x.pick(7, 25);
        x.flip(1);
        x.seed(99);
        x.keep(0);
        x.see(0, 1, 1);
        x.write(0, 1);
        x.flip(1);
        x.shift(0, 1);
        x.buy(1, 400);
        x.drift(20);
        x.goBack(0);
        checks.due("picks", x.told(4), 25);
        checks.due("rows", x.told(5), 24);
        checks.due("the latest row", x.row(0, 0), 0);
        checks.due("the row ahead", x.row(1, 0), 1);
        checks.due("the oldest row", x.row(23, 1), 0);
        checks.due("S", x.card(1, 4), 0);
        checks.due("hole", x.card(0, 5), 1);
        checks.due("twist", x.card(1, 6), 74);
        checks.due("shows", x.card(1, 7), 0);
        checks.due("slants", x.card(1, 8), 0);
        checks.due("yarn", x.told(10), 1450);
        checks.due("what was seen stays", x.told(11), 1);
        checks.due("the book stays", x.told(12), 1);
        checks.due("seed", x.seed(0), 99);
        x.pick(1, 1);
        x.goBack(0);
        checks.due("the image is as it was", x.told(4), 25);
        checks.due("no colour is lost", x.yarn(3), UNKNOWN);
        checks.due("nothing wrong but the entry", x.judge(), 0);
        checks.due("none of no pack", x.card(0, 9), NONE + 1);
    }
}
