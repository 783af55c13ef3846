import java.lang.reflect.InvocationTargetException;
import java.lang.reflect.Method;
import java.util.ArrayList;
import java.util.Comparator;
import java.util.List;

/**
 * What the tests at the edges share. Each of their tests is a method of its own, named after the
 * promise (and the section of 'Terms') that it is of and after the sentence, which @Says quotes.
 */
abstract class Edge {
    static final int NONE = CardBand.NONE, UNKNOWN = CardBand.UNKNOWN, OUTSIDE = CardBand.OUTSIDE;
    static final int NOT = CardBand.NOT, FULL = CardBand.FULL;
    static final int MIN = Integer.MIN_VALUE, MAX = Integer.MAX_VALUE;

    /** Four cards in two packs, card 3 in none. */
    static final String FOUR = "l4;c0 1 2 3 0;c3 2 1 0 1;c1 1 2 2 0;c0 0 0 1 1;k5;k2;y3 40;";

    private static String running = "";
    private static int asked = 0;
    private static int wrong = 0;

    /** Calls that bring an object to where a test begins. */
    interface Deed {
        void on(CardBand x);
    }

    /** One call and its answer. */
    interface Call {
        int of(CardBand x);
    }

    static void run(Class<?> tests) {
        List<Method> methods = testsOf(tests);
        for (Method method : methods) {
            runOne(method);
        }
        System.out.println(methods.size() + " tests, " + asked + " answers, " + wrong + " not as due");
        if (wrong != 0) {
            System.exit(1);
        }
    }

    static List<Method> testsOf(Class<?> tests) {
        List<Method> methods = new ArrayList<>();
        for (Method method : tests.getDeclaredMethods()) {
            if (method.getName().startsWith("promise") || method.isAnnotationPresent(Says.class)) {
                methods.add(method);
            }
        }
        methods.sort(Comparator.comparing(Method::getName));
        return methods;
    }

    private static void runOne(Method method) {
        running = method.getName();
        int askedBefore = asked;
        try {
            method.setAccessible(true);
            method.invoke(null);
        } catch (InvocationTargetException | IllegalAccessException e) {
            wrong++;
            System.out.println(running + ": " + (e.getCause() == null ? e : e.getCause()));
        }
        due("answers asked", asked > askedBefore ? 1 : 0, 1);
    }

    static void due(String call, long got, long want) {
        asked++;
        if (got != want) {
            wrong++;
            if (wrong <= 60) {
                System.out.println(running + ": " + call + " answered " + got + ", due is " + want);
            }
        }
    }

    static void feedAll(CardBand x, String text) {
        for (int i = 0; i < text.length(); i++) {
            x.feed(text.charAt(i));
        }
    }

    static int loomOf(CardBand x, String text) {
        feedAll(x, text);
        return x.loom();
    }

    /** A new object whose LOOM is told by the text. */
    static CardBand woven(String text) {
        CardBand x = new CardBand();
        int cards = loomOf(x, text);
        if (cards < 0) {
            throw new IllegalStateException("loom() answered " + cards + " for " + text);
        }
        return x;
    }

    static CardBand made(Deed deeds) {
        CardBand x = new CardBand();
        deeds.on(x);
        return x;
    }

    /** PICKS by which nothing is turned. */
    static void rest(CardBand x, int picks) {
        for (int left = picks; left > 0; left -= 30) {
            x.pick(0, Math.min(30, left));
        }
    }

    /** Something of all that an object keeps: a LOOM, deeds, images, what was seen, a book, a seed, a fault, a text. */
    static void rich(CardBand x) {
        loomOf(x, FOUR);
        x.pick(4, 3);
        x.seed(7);
        x.keep(0);
        x.pick(5, 2);
        x.flip(1);
        x.seed(2147483647);
        x.keep(1);
        x.seed(99);
        x.pick(1, 2);
        x.shift(2, 1);
        x.buy(3, 5);
        x.flip(0);
        x.drift(3);
        x.see(0, 2, 1);
        x.see(1, 1, 3);
        x.write(3, NONE);
        x.write(0, 2);
        x.write(1, 2);
        loomOf(x, "l4;x");
        feedAll(x, "l2;c0 1 1 0 1;");
    }

    /** The call is refused as told, on the rich object; nothing is otherwise by it. */
    static void refused(String name, Call call, int want) {
        refused(name, Edge::rich, call, want);
    }

    static void refused(String name, Deed made, Call call, int want) {
        due(name, call.of(made(made)), want);
        alike("behind " + name, x -> {
            made.on(x);
            call.of(x);
        }, made, true);
    }

    /**
     * Two objects show the same, whatever is asked of them. Each part of what is asked has two new objects:
     * one answers for 512 calls only.
     */
    static void alike(String name, Deed one, Deed other, boolean textToo) {
        for (int part = 0; part < Probe.PARTS; part++) {
            Probe got = new Probe(made(one), textToo);
            Probe want = new Probe(made(other), textToo);
            got.ask(part);
            want.ask(part);
            due(name + ", answers of part " + part, got.names.size(), want.names.size());
            for (int i = 0; i < Math.min(got.names.size(), want.names.size()); i++) {
                due(name + ", " + got.names.get(i), got.answers.get(i), want.answers.get(i));
            }
        }
    }
}
