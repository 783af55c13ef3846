/** Promises 28 to 33: what was seen of a card, the book. */
public final class SeenTest {
    private static final int NONE = Checks.NONE, UNKNOWN = Checks.UNKNOWN, OUTSIDE = Checks.OUTSIDE, FULL = Checks.FULL;
    private static final String CARDS = "l4;c0 1 2 1 0;c0 1 2 3 0;c2 2 2 2 1;c0 0 1 1 0;c3 0 0 0 0;k1;";
    private static final Checks checks = new Checks();

    public static void main(String[] args) {
        see();
        holes();
        lookAt();
        write();
        judge();
        tear();
        checks.end();
    }

    private static void see() {
        checks.promise(28);
        CardBand x = Checks.woven(CARDS);
        checks.due("see(5, 1, 0)", x.see(5, 1, 0), UNKNOWN);
        checks.due("see(-1, 0, 0)", x.see(-1, 0, 0), UNKNOWN);
        checks.due("see(0, 0, 4)", x.see(0, 0, 4), UNKNOWN);
        checks.due("see(0, 1, -1)", x.see(0, 1, -1), UNKNOWN);
        checks.due("see(0, 0, 0)", x.see(0, 0, 0), OUTSIDE);
        checks.due("see(0, 100, 0)", x.see(0, 100, 0), OUTSIDE);
        for (int i = 1; i <= 8; i++) {
            checks.due("see(" + i % 5 + ", 99, 3)", x.see(i % 5, 99, 3), i);
        }
        checks.due("a ninth", x.see(0, 1, 0), FULL);
        checks.due("a ninth, outside", x.see(0, 100, 0), OUTSIDE);
        checks.due("seen", x.told(11), 8);
        checks.due("it is no deed", x.told(13), 0);
        checks.due("no loom", new CardBand().see(0, 1, 0), UNKNOWN);
    }

    private static void holes() {
        checks.promise(29);
        CardBand x = Checks.woven(CARDS);
        checks.due("nothing seen", x.holes(0), 15);
        x.see(0, 1, 1);
        checks.due("1 at once", x.holes(0), 10);
        checks.due("of another card", x.holes(1), 15);
        x.see(1, 2, 0);
        checks.due("turned twice 0: it stood at 3", x.holes(1), 8);
        x.see(0, 4, 0);
        checks.due("turned four times 0: at 1", x.holes(0), 2);
        x.see(3, 5, 1);
        checks.due("turned five times", x.holes(3), 12);
        x.see(3, 99, 0);
        checks.due("turned 99 times 0: at 2 or 3", x.holes(3), 12);
        x.see(3, 98, 0);
        checks.due("turned 98 times 0: at 3", x.holes(3), 8);
        x.see(2, 1, 3);
        checks.due("no such colour", x.holes(2), 0);
        x.shift(0, 2);
        x.pick(1, 3);
        checks.due("as told here, where it stands is not asked", x.holes(0), 2);
        checks.due("holes(5)", x.holes(5), UNKNOWN);
        checks.due("holes(-1)", x.holes(-1), UNKNOWN);
        checks.due("no loom", new CardBand().holes(0), UNKNOWN);
    }

    private static void lookAt() {
        checks.promise(30);
        CardBand x = Checks.woven(CARDS);
        checks.due("2 of 4 whichever", x.lookAt(0), 1);
        checks.due("all unlike", x.lookAt(1), 1);
        checks.due("all alike", x.lookAt(2), NONE);
        checks.due("3 of 4", x.lookAt(4), 1);
        x.see(0, 1, 1);
        checks.due("holes 1 and 3, two turns", x.lookAt(0), 2);
        x.see(3, 1, 0);
        checks.due("holes 0 and 1, two turns", x.lookAt(3), 2);
        x.see(4, 1, 0);
        checks.due("holes 1, 2, 3: two turns, 3 at hole 0", x.lookAt(4), 2);
        x.see(4, 2, 0);
        checks.due("holes 1 and 2: three turns", x.lookAt(4), 3);
        x.see(1, 1, 2);
        checks.due("one hole", x.lookAt(1), NONE);
        x.see(2, 1, 0);
        checks.due("no hole", x.lookAt(2), NONE);
        checks.due("lookAt(5)", x.lookAt(5), UNKNOWN);
        checks.due("lookAt(-1)", x.lookAt(-1), UNKNOWN);
        checks.due("no loom", new CardBand().lookAt(0), UNKNOWN);
        CardBand y = Checks.woven("l8;c4 5 4 6 0;c0 0 1 0 0;");
        y.see(0, 2, 4);
        checks.due("holes 1 and 3 of 4 5 4 6", y.lookAt(0), 1);
        y.see(1, 1, 0);
        checks.due("holes 0, 1, 3: two turns", y.lookAt(1), 2);
        y.see(1, 2, 0);
        checks.due("holes 0 and 3: three turns", y.lookAt(1), 3);
        CardBand z = Checks.woven("l2;c0 0 0 1 0;");
        z.see(0, 1, 0);
        z.see(0, 2, 0);
        checks.due("holes 0 and 1: three turns", z.lookAt(0), 3);
    }

    private static void write() {
        checks.promise(31);
        CardBand x = Checks.woven(CARDS);
        checks.due("write(5, 0)", x.write(5, 0), UNKNOWN);
        checks.due("write(-1, -1)", x.write(-1, -1), UNKNOWN);
        checks.due("write(0, 4)", x.write(0, 4), UNKNOWN);
        checks.due("write(0, -2)", x.write(0, -2), UNKNOWN);
        for (int i = 1; i <= 20; i++) {
            checks.due("write(" + i % 5 + ", -1)", x.write(i % 5, i % 5 - 1), i);
        }
        checks.due("a 21st", x.write(0, 0), FULL);
        checks.due("a 21st, unknown", x.write(9, 0), UNKNOWN);
        checks.due("entries", x.told(12), 20);
        checks.due("no loom", new CardBand().write(0, -1), UNKNOWN);
    }

    private static void judge() {
        checks.promise(32);
        CardBand x = Checks.woven(CARDS);
        checks.due("no book", x.judge(), NONE);
        x.write(0, NONE);
        checks.due("shows nothing", x.judge(), NONE);
        x.write(1, NONE);
        x.pick(1, 1);
        checks.due("shows 0 now", x.judge(), 0);
        x.tear();
        x.write(1, NONE);
        x.write(0, 0);
        checks.due("as it is", x.judge(), NONE);
        x.write(0, 1);
        x.write(1, 2);
        checks.due("the first that is otherwise", x.judge(), 2);
        x.pick(1, 1);
        checks.due("otherwise now", x.judge(), 1);
        checks.due("no loom", new CardBand().judge(), NONE);
    }

    private static void tear() {
        checks.promise(33);
        CardBand x = Checks.woven(CARDS);
        checks.due("nothing", x.tear(), 0);
        x.see(0, 1, 1);
        x.see(0, 2, 2);
        x.write(0, 3);
        checks.due("both", x.tear(), 3);
        checks.due("nothing seen", x.told(11), 0);
        checks.due("no book", x.told(12), 0);
        checks.due("all holes", x.holes(0), 15);
        checks.due("nothing wrong", x.judge(), NONE);
        checks.due("again", x.tear(), 0);
        checks.due("see again", x.see(0, 1, 0), 1);
        checks.due("write again", x.write(0, 0), 1);
    }
}
