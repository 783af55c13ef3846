import java.lang.reflect.Array;
import java.lang.reflect.Field;
import java.lang.reflect.Modifier;
import java.util.Collections;
import java.util.IdentityHashMap;
import java.util.Set;

/**
 * 'What it is': an object is used for 512 calls, so the 512th answers like any other; and what LANGUAGE.md
 * asks of the room: an object is small when made, and keeps what it is made of, whatever is called.
 */
public final class RoomTest {
    private static final int CALLS = 512, TEXT_MAX = 240;
    /** Eight cards in four packs, three colours. */
    private static final String EIGHT =
        "l3;c0 1 2 0 0;c1 2 0 1 1;c2 2 1 0 0;c0 0 1 1 1;c0 1 0 1 0;c2 1 2 1 0;c0 0 0 0 1;c1 1 2 2 0;k3;k12;k48;k192;";
    private static final Checks checks = new Checks();

    public static void main(String[] args) throws IllegalAccessException {
        feeds();
        texts();
        picks();
        draws();
        deedsUndone();
        images();
        keepsWhatItIsMadeOf();
        checks.end();
    }

    private static void feeds() {
        checks.promise(2);
        CardBand x = new CardBand();
        int answer = 0;
        for (int call = 1; call <= CALLS; call++) {
            answer = x.feed('l');
            checks.due("feed no. " + call, answer, call <= TEXT_MAX ? call : CardBand.FULL);
        }
    }

    private static void texts() {
        checks.promise(3);
        CardBand x = new CardBand();
        for (int i = 0; i < CALLS / 4; i++) {
            x.feed('l');
            x.feed('1' + i % 8);
            x.feed(i % 3 == 2 ? 'x' : ';');
            checks.due("loom no. " + i, x.loom(), i % 3 == 2 ? -11 : 0);
        }
        CardBand y = new CardBand();
        Checks.feedAll(y, EIGHT);
        for (int call = EIGHT.length() + 1; call <= CALLS; call++) {
            checks.due("loom() as call " + call, y.loom(), call == EIGHT.length() + 1 ? 8 : 0);
        }
    }

    private static void picks() {
        checks.promise(10);
        CardBand x = Checks.woven("l1;");
        for (int call = 5; call <= CALLS; call++) {
            checks.due("pick(0, 30) as call " + call, x.pick(0, 30), call <= 305 ? 30 * (call - 4) : CardBand.FULL);
        }
    }

    private static void draws() {
        checks.promise(14);
        CardBand x = Checks.woven("l1;");
        for (int call = 5; call <= CALLS; call++) {
            checks.due("drift(30) as call " + call, x.drift(30), call <= 305 ? 30 * (call - 4) : CardBand.FULL);
        }
    }

    private static void deedsUndone() {
        checks.promise(15);
        CardBand x = Checks.woven("l1;c0 0 0 0 0;");
        int way = 0;
        for (int call = 16; call <= CALLS - 32; call++) {
            way = 1 - way;
            checks.due("flip(0) as call " + call, x.flip(0), way);
        }
        for (int i = 1; i <= 30; i++) {
            checks.due("undo(1) no. " + i, x.undo(1), 0);
        }
        checks.due("undo(1) beyond 30", x.undo(1), CardBand.NOT);
        checks.due("S, call 512", x.card(0, 4), way);
    }

    private static void images() {
        checks.promise(36);
        CardBand x = Checks.woven("l1;c0 0 0 0 0;");
        for (int call = 16; call + 3 <= CALLS; call += 4) {
            checks.due("keep(0) as call " + call, x.keep(0), 1);
            checks.due("shift(0, 3)", x.shift(0, 3), 3);
            checks.due("goBack(0)", x.goBack(0), 1);
            checks.due("card(0, 5)", x.card(0, 5), 0);
        }
    }

    private static void keepsWhatItIsMadeOf() throws IllegalAccessException {
        CardBand x = new CardBand();
        Set<Object> made = Collections.newSetFromMap(new IdentityHashMap<>());
        long elements = reach(x, made);
        checks.promise(1);
        checks.due("objects and arrays, as README.md tells", made.size(), 332);
        checks.due("fields and elements, as README.md tells", elements, 9243);
        busy(x);
        Set<Object> kept = Collections.newSetFromMap(new IdentityHashMap<>());
        checks.due("fields and elements behind 512 calls", reach(x, kept), elements);
        checks.due("objects that came by 512 calls", kept.stream().filter(one -> !made.contains(one)).count(), 0);
        checks.due("objects behind 512 calls", kept.size(), made.size());
    }

    /** Fields and elements of all that can be reached from here and was not reached yet. */
    private static long reach(Object one, Set<Object> reached) throws IllegalAccessException {
        if (one == null || !reached.add(one)) {
            return 0;
        }
        long count = 0;
        if (one.getClass().isArray()) {
            count = Array.getLength(one);
            for (int i = 0; one instanceof Object[] && i < Array.getLength(one); i++) {
                count += reach(Array.get(one, i), reached);
            }
            return count;
        }
        for (Field field : one.getClass().getDeclaredFields()) {
            if (!Modifier.isStatic(field.getModifiers())) {
                field.setAccessible(true);
                count += 1 + (field.getType().isPrimitive() ? 0 : reach(field.get(one), reached));
            }
        }
        return count;
    }

    /** 512 calls, each of the face among them, the dearest ones often. */
    private static void busy(CardBand x) {
        for (int i = 0; i < EIGHT.length(); i++) {
            x.feed(EIGHT.charAt(i));
        }
        x.loom();
        int calls = EIGHT.length() + 1;
        for (int round = 0; calls + 35 <= CALLS; round++) {
            tell(x, round);
            doDeeds(x, round);
            tryAll(x, round);
            note(x, round);
            calls += 35;
        }
    }

    private static void tell(CardBand x, int round) {
        x.fault();
        x.told(6 + round % 4);
        x.card(round % 8, round % 10);
        x.pack(round % 5);
        x.yarn(round % 4);
        x.row(round, round % 9);
    }

    private static void doDeeds(CardBand x, int round) {
        x.pick(40, 4);
        x.flip(round % 8);
        x.shift(round % 8, 2);
        x.buy(round % 3, 100);
        x.drift(30);
        x.undo(1 + round % 3);
        x.seed(round * 1000003);
        x.keep(round % 2);
        x.goBack(round % 2);
    }

    private static void tryAll(CardBand x, int round) {
        x.ahead(round % 8, 99, round % 2);
        x.lasts(80, round % 2);
        x.untwist(round % 2);
        x.home(round % 2);
        x.together(1 << round % 8, round % 3, round % 2);
        x.repeat();
        x.floats(round % 8);
        x.alike(CardBand.NONE);
        x.shown(round % 3);
        x.turned(round % 8, round % 23);
        x.share(999, round % 3);
        x.plain(60, 99);
    }

    private static void note(CardBand x, int round) {
        x.see(round % 8, 99, round % 3);
        x.holes(round % 8);
        x.lookAt(round % 8);
        x.write(round % 8, round % 3);
        x.judge();
        x.tear();
        x.feed(';');
        x.loom();
    }
}
