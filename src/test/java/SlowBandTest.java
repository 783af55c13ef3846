/** Runs of drawn calls, ordinary, at the edges and wrong ones, on the class and on the slow one. */
public final class SlowBandTest {
    private static final int RUNS = 4000, CALLS = 512, COMPARING = 14 + 8 * 37;
    private static final int[] ODD = {
        Integer.MIN_VALUE, -1000000001, -2, -1, 0, 1, 2, 3, 4, 7, 8, 9, 10, 13, 14, 22, 23, 24, 30, 31,
        80, 81, 99, 100, 255, 256, 999, 1000, Integer.MAX_VALUE};
    private static final String[] NAMES = {
        "feed", "loom", "fault", "told", "card", "pack", "yarn", "row", "pick", "flip", "shift", "buy", "drift", "undo",
        "ahead", "lasts", "untwist", "home", "together", "repeat", "floats", "alike", "shown", "turned", "share", "plain",
        "see", "holes", "lookAt", "write", "judge", "tear", "seed", "keep", "goBack"};
    private static final Checks checks = new Checks();
    private static long drawn = 20261119;

    public static void main(String[] args) {
        for (int run = 0; run < RUNS; run++) {
            runOnce(run);
        }
        manyTexts();
        checks.end();
    }

    private static int draw(int n) {
        drawn = drawn * 6364136223846793005L + 1442695040888963407L;
        return (int) ((drawn >>> 33) % n);
    }

    private static void runOnce(int run) {
        CardBand x = new CardBand();
        SlowBand y = new SlowBand();
        String told = drawText();
        feedBoth(x, y, told);
        checks.due("run " + run + ": loom of " + told, x.loom(), y.loom());
        // an object answers for 512 calls only: some are left for comparing all
        boolean compared = run % 4 != 0;
        int calls = CALLS - 1 - told.length() - (compared ? COMPARING : 0);
        String name = "";
        while (calls-- > 0) {
            int call = CALLS - calls;
            int which = draw(NAMES.length);
            if (which == 1 && draw(20) != 0 || which == 0 && draw(6) != 0) {
                which = 8;
            }
            if (which == 1 && calls > 240 && draw(4) != 0) {
                String other = drawText();
                feedBoth(x, y, other);
                calls -= other.length();
            }
            if (which == 18 && y.told(2) == 4 && draw(40) != 0 || which == 31 && draw(4) != 0) {
                which = 14;
            }
            int a = drawFor(y, which, 0);
            int b = drawFor(y, which, 1);
            int c = drawFor(y, which, 2);
            name = "run " + run + ", call " + call + ": " + NAMES[which] + "(" + a + ", " + b + ", " + c + ")";
            checks.due(name, answer(x, which, a, b, c), slowAnswer(y, which, a, b, c));
        }
        if (compared) {
            compareAll(name, x, y);
        }
    }

    private static void feedBoth(CardBand x, SlowBand y, String told) {
        for (int i = 0; i < told.length(); i++) {
            checks.due("feed", x.feed(told.charAt(i)), y.feed(told.charAt(i)));
        }
    }

    private static void compareAll(String behind, CardBand x, SlowBand y) {
        for (int what = 0; what < 14; what++) {
            checks.due("behind " + behind + ": told(" + what + ")", x.told(what), y.told(what));
        }
        for (int c = 0; c < 8; c++) {
            for (int what = 0; what < 10; what++) {
                checks.due("behind " + behind + ": card(" + c + ", " + what + ")", x.card(c, what), y.card(c, what));
            }
            for (int i = 0; i < 25; i++) {
                checks.due("behind " + behind + ": row(" + i + ", " + c + ")", x.row(i, c), y.row(i, c));
            }
            checks.due("behind " + behind + ": yarn(" + c + ")", x.yarn(c), y.yarn(c));
            checks.due("behind " + behind + ": holes(" + c + ")", x.holes(c), y.holes(c));
        }
    }

    /** Words of the argument's own bounds mostly, some at the edges, some far out. */
    private static int drawFor(SlowBand y, int which, int place) {
        int kind = draw(20);
        if (kind == 0) {
            return ODD[draw(ODD.length)];
        }
        String name = NAMES[which];
        if (kind < 15 && name.equals("together")) {
            return draw(place == 0 ? 1 << y.told(1) : place == 1 ? Math.max(1, y.told(0)) : 2);
        }
        if (kind < 15 && (name.equals("lasts") || name.equals("pick"))) {
            return place == 0 ? draw((int) Math.pow(3, y.told(2))) : name.equals("pick") ? 1 + draw(4) : draw(2);
        }
        if (kind < 15 && (name.equals("see") || name.equals("write"))) {
            return place == 0 ? draw(2) : name.equals("see") && place == 1 ? 1 + draw(6) : draw(Math.max(1, y.told(0)));
        }
        if (name.equals("feed")) return draw(4) == 0 ? draw(256) : "lcky; 0123456789".charAt(draw(16));
        if (name.equals("pick") && place == 0 || name.equals("lasts") && place == 0) return draw(3) == 0 ? draw(81) : draw(27);
        if (name.equals("pick") || name.equals("undo")) return draw(3) == 0 ? 1 + draw(30) : 1 + draw(4);
        if (name.equals("drift")) return 1 + draw(30);
        if (name.equals("together") && place == 0) return draw(3) == 0 ? draw(256) : 1 + draw(15);
        if (name.equals("share") && place == 0 || name.equals("buy") && place == 1) return draw(1001);
        if (name.equals("plain")) return draw(100);
        if (name.equals("seed")) return draw(Integer.MAX_VALUE);
        if (name.equals("told") || name.equals("card") && place == 1) return draw(14);
        if (name.equals("alike") || name.equals("turned") && place == 1) return draw(24) - 1;
        if (name.equals("ahead") && place == 1 || name.equals("see") && place == 1) return draw(101);
        if (place == 0 && draw(3) > 0) return draw(3);
        return draw(9) - 1;
    }

    private static String drawText() {
        int colours = 1 + draw(draw(3) != 0 ? 3 : 8);
        int cards = draw(10) == 0 ? draw(3) : 2 + draw(7);
        int packs = draw(5);
        StringBuilder text = new StringBuilder();
        text.append("l").append(colours).append(";");
        for (int c = 0; c < cards; c++) {
            text.append("c");
            for (int h = 0; h < 4; h++) text.append(draw(colours)).append(" ");
            text.append(draw(2)).append(";");
        }
        int[] sets = new int[packs];
        for (int c = 0; c < cards && packs > 0; c++) {
            if (draw(6) > 0) sets[draw(packs)] |= 1 << c;
        }
        for (int set : sets) {
            if (set != 0) text.append("k").append(set).append(";");
        }
        if (draw(3) == 0) text.append("y").append(draw(colours)).append(" ").append(draw(100)).append(";");
        while (text.length() > 240) text.deleteCharAt(text.length() - 1);
        return text.toString();
    }

    /** Texts with a letter changed, put in or taken out: the faults. */
    private static void manyTexts() {
        String letters = "lcky;; 0012345678999x";
        for (int i = 0; i < 40000; i++) {
            StringBuilder text = new StringBuilder(drawText());
            for (int times = draw(4); times > 0 && text.length() > 2; times--) {
                int at = draw(text.length());
                char letter = letters.charAt(draw(letters.length()));
                switch (draw(4)) {
                    case 0 -> text.setCharAt(at, letter);
                    case 1 -> text.deleteCharAt(at);
                    case 2 -> text.setLength(at);
                    default -> text.insert(at, letter);
                }
            }
            String told = text.length() > 240 ? text.substring(0, 240) : text.toString();
            CardBand x = new CardBand();
            SlowBand y = new SlowBand();
            feedBoth(x, y, told);
            checks.due("loom of \"" + told + "\"", x.loom(), y.loom());
            checks.due("fault of \"" + told + "\"", x.fault(), y.fault());
            checks.due("yarn of \"" + told + "\"", x.told(10), y.told(10));
            checks.due("packs of \"" + told + "\"", x.told(2), y.told(2));
        }
    }

    private static int answer(CardBand x, int which, int a, int b, int c) {
        return switch (NAMES[which]) {
            case "feed" -> x.feed(a);
            case "loom" -> x.loom();
            case "fault" -> x.fault();
            case "told" -> x.told(a);
            case "card" -> x.card(a, b);
            case "pack" -> x.pack(a);
            case "yarn" -> x.yarn(a);
            case "row" -> x.row(a, b);
            case "pick" -> x.pick(a, b);
            case "flip" -> x.flip(a);
            case "shift" -> x.shift(a, b);
            case "buy" -> x.buy(a, b);
            case "drift" -> x.drift(a);
            case "undo" -> x.undo(a);
            case "ahead" -> x.ahead(a, b, c);
            case "lasts" -> x.lasts(a, b);
            case "untwist" -> x.untwist(a);
            case "home" -> x.home(a);
            case "together" -> x.together(a, b, c);
            case "repeat" -> x.repeat();
            case "floats" -> x.floats(a);
            case "alike" -> x.alike(a);
            case "shown" -> x.shown(a);
            case "turned" -> x.turned(a, b);
            case "share" -> x.share(a, b);
            case "plain" -> x.plain(a, b);
            case "see" -> x.see(a, b, c);
            case "holes" -> x.holes(a);
            case "lookAt" -> x.lookAt(a);
            case "write" -> x.write(a, b);
            case "judge" -> x.judge();
            case "tear" -> x.tear();
            case "seed" -> x.seed(a);
            case "keep" -> x.keep(a);
            default -> x.goBack(a);
        };
    }

    private static int slowAnswer(SlowBand x, int which, int a, int b, int c) {
        return switch (NAMES[which]) {
            case "feed" -> x.feed(a);
            case "loom" -> x.loom();
            case "fault" -> x.fault();
            case "told" -> x.told(a);
            case "card" -> x.card(a, b);
            case "pack" -> x.pack(a);
            case "yarn" -> x.yarn(a);
            case "row" -> x.row(a, b);
            case "pick" -> x.pick(a, b);
            case "flip" -> x.flip(a);
            case "shift" -> x.shift(a, b);
            case "buy" -> x.buy(a, b);
            case "drift" -> x.drift(a);
            case "undo" -> x.undo(a);
            case "ahead" -> x.ahead(a, b, c);
            case "lasts" -> x.lasts(a, b);
            case "untwist" -> x.untwist(a);
            case "home" -> x.home(a);
            case "together" -> x.together(a, b, c);
            case "repeat" -> x.repeat();
            case "floats" -> x.floats(a);
            case "alike" -> x.alike(a);
            case "shown" -> x.shown(a);
            case "turned" -> x.turned(a, b);
            case "share" -> x.share(a, b);
            case "plain" -> x.plain(a, b);
            case "see" -> x.see(a, b, c);
            case "holes" -> x.holes(a);
            case "lookAt" -> x.lookAt(a);
            case "write" -> x.write(a, b);
            case "judge" -> x.judge();
            case "tear" -> x.tear();
            case "seed" -> x.seed(a);
            case "keep" -> x.keep(a);
            default -> x.goBack(a);
        };
    }
}
