import java.util.ArrayList;
import java.util.List;

/** Asks an object, part by part, for all that it shows; some parts change it. */
final class Probe {
    static final int PARTS = 11;

    final List<String> names = new ArrayList<>();
    final List<Integer> answers = new ArrayList<>();
    private final CardBand x;
    private final boolean textToo;

    /** Without the text: the place of a FAULT and what was fed are not asked. */
    Probe(CardBand x, boolean textToo) {
        this.x = x;
        this.textToo = textToo;
    }

    private void add(String name, int answer) {
        names.add(name);
        answers.add(answer);
    }

    void ask(int part) {
        switch (part) {
            case 0 -> tellLoom();
            case 1 -> tellCards(8);
            case 2 -> tellRows(0, 12);
            case 3 -> tellRows(12, 25);
            case 4 -> tellTurns();
            case 5 -> undoAll();
            case 6 -> goBack(0);
            case 7 -> goBack(1);
            case 8 -> drawOn();
            case 9 -> fillNotes();
            default -> readText();
        }
    }

    private void tellLoom() {
        for (int what = 0; what < 14; what++) {
            if (what != 3 || textToo) {
                add("told(" + what + ")", x.told(what));
            }
        }
        if (textToo) {
            add("fault()", x.fault());
        }
        for (int k = 0; k < 8; k++) {
            add("pack(" + k + ")", x.pack(k));
            add("yarn(" + k + ")", x.yarn(k));
            add("shown(" + k + ")", x.shown(k));
            add("share(999, " + k + ")", x.share(999, k));
        }
        for (int i = CardBand.NONE; i < 6; i++) {
            add("alike(" + i + ")", x.alike(i));
        }
        for (int what = 0; what < 2; what++) {
            add("untwist(" + what + ")", x.untwist(what));
            add("home(" + what + ")", x.home(what));
            add("lasts(1, " + what + ")", x.lasts(1, what));
            add("together(1, 0, " + what + ")", x.together(1, 0, what));
        }
        add("repeat()", x.repeat());
        add("judge()", x.judge());
        add("seed(0)", x.seed(0));
    }

    private void tellCards(int cards) {
        for (int c = 0; c < cards; c++) {
            for (int what = 0; what < 10; what++) {
                add("card(" + c + ", " + what + ")", x.card(c, what));
            }
            add("floats(" + c + ")", x.floats(c));
            add("holes(" + c + ")", x.holes(c));
            add("lookAt(" + c + ")", x.lookAt(c));
        }
    }

    private void tellRows(int from, int to) {
        for (int i = from; i < to; i++) {
            for (int c = 0; c < 8; c++) {
                add("row(" + i + ", " + c + ")", x.row(i, c));
            }
        }
    }

    private void tellTurns() {
        for (int i = 0; i < 23; i++) {
            for (int c = 0; c < 4; c++) {
                add("turned(" + c + ", " + i + ")", x.turned(c, i));
            }
        }
    }

    private void tellNow(String when) {
        add(when + ": told(4)", x.told(4));
        add(when + ": told(5)", x.told(5));
        add(when + ": told(10)", x.told(10));
        add(when + ": told(13)", x.told(13));
        add(when + ": judge()", x.judge());
        for (int c = 0; c < 4; c++) {
            for (int what = 4; what < 9; what++) {
                add(when + ": card(" + c + ", " + what + ")", x.card(c, what));
            }
        }
    }

    private void undoAll() {
        for (int i = 0; i < 31; i++) {
            add("undo(1) no. " + i, x.undo(1));
            add("told(10) behind undo no. " + i, x.told(10));
            add("card(0, 5) behind undo no. " + i, x.card(0, 5));
            add("card(0, 4) behind undo no. " + i, x.card(0, 4));
        }
        tellNow("all undone");
    }

    private void goBack(int i) {
        add("goBack(" + i + ")", x.goBack(i));
        tellNow("behind goBack(" + i + ")");
        tellRows(0, 6);
        add("seed(1) behind goBack(" + i + ")", x.seed(1));
    }

    private void drawOn() {
        add("drift(30)", x.drift(30));
        tellNow("behind drift(30)");
        tellRows(0, 10);
    }

    private void fillNotes() {
        add("see(0, 1, 0)", x.see(0, 1, 0));
        add("holes(0)", x.holes(0));
        add("write(0, 0)", x.write(0, 0));
        add("judge()", x.judge());
        add("tear()", x.tear());
        add("judge() behind tear()", x.judge());
    }

    private void readText() {
        if (textToo) {
            add("feed(32)", x.feed(32));
            add("loom()", x.loom());
            add("fault() behind it", x.fault());
            tellLoom();
            tellCards(2);
        }
    }
}
