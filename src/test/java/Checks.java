/** Counts the calls whose answer is not the one that is due. */
final class Checks {
    static final int NONE = CardBand.NONE;
    static final int UNKNOWN = CardBand.UNKNOWN;
    static final int OUTSIDE = CardBand.OUTSIDE;
    static final int NOT = CardBand.NOT;
    static final int FULL = CardBand.FULL;

    private int wrong = 0;
    private int asked = 0;
    private int promise = 0;

    void promise(int number) {
        promise = number;
    }

    void due(String call, long got, long want) {
        asked++;
        if (got != want) {
            wrong++;
            if (wrong <= 50) {
                System.out.println("promise " + promise + ": " + call + " answered " + got + ", due is " + want);
            }
        }
    }

    void end() {
        System.out.println(asked + " answers, " + wrong + " not as due");
        if (wrong != 0) {
            System.exit(1);
        }
    }

    static void feedAll(CardBand x, String text) {
        for (int i = 0; i < text.length(); i++) {
            x.feed(text.charAt(i));
        }
    }

    /** A new object whose LOOM is told by the text. */
    static CardBand woven(String text) {
        CardBand x = new CardBand();
        feedAll(x, text);
        if (x.loom() < 0) {
            throw new IllegalStateException("fault at " + x.fault() + " in " + text);
        }
        return x;
    }
}
