import java.util.ArrayList;
import java.util.Arrays;
import java.util.HashSet;
import java.util.LinkedHashSet;
import java.util.List;
import java.util.Set;

/**
 * The document once more, written without care for speed and in another way than the class:
 * what is searched for is searched by trying all MOVES, pick by pick.
 */
final class SlowBand {
    static final int NONE = -1, UNKNOWN = -1000000001, OUTSIDE = -1000000002, NOT = -1000000003, FULL = -1000000004;

    /** Section 2. */
    static final class State implements Cloneable {
        int[] s, hole, twist, shows, slants, yarn;
        List<int[]> rows = new ArrayList<>();
        int picks;

        State copy() {
            State other = new State();
            other.s = s.clone();
            other.hole = hole.clone();
            other.twist = twist.clone();
            other.shows = shows.clone();
            other.slants = slants.clone();
            other.yarn = yarn.clone();
            other.rows = new ArrayList<>(rows);
            other.picks = picks;
            return other;
        }
    }

    private StringBuilder text = new StringBuilder();
    private int faultAt = NONE;
    private int colours;
    private List<int[]> cards = new ArrayList<>();
    private List<Integer> packs = new ArrayList<>();
    private State now = new State();
    private final List<State> deeds = new ArrayList<>();
    private final State[] images = new State[2];
    private final long[] imageSeeds = new long[2];
    private final List<int[]> seen = new ArrayList<>();
    private final List<int[]> book = new ArrayList<>();
    private long seed;

    SlowBand() {
        weave(new int[0]);
    }

    private void weave(int[] yarn) {
        int n = cards.size();
        now = new State();
        now.s = new int[n];
        now.hole = new int[n];
        now.twist = new int[n];
        now.shows = new int[n];
        now.slants = new int[n];
        now.yarn = yarn;
        for (int c = 0; c < n; c++) {
            now.s[c] = cards.get(c)[4];
            now.shows[c] = NONE;
            now.slants[c] = NONE;
        }
    }

    // ---- the loom

    int feed(int letter) {
        if (letter < 0 || letter > 255) return OUTSIDE;
        if (text.length() == 240) return FULL;
        text.append((char) letter);
        return text.length();
    }

    /** One token: where it begins, what it is: a number's figures or one letter. */
    private record Token(int at, String what) {
        boolean isNumber() {
            return what.matches("[0-9]+");
        }
    }

    private static List<Token> tokens(String text) {
        List<Token> found = new ArrayList<>();
        int i = 0;
        while (i < text.length()) {
            int from = i;
            if (Character.isDigit(text.charAt(i)) && text.charAt(i) < 128) {
                while (i < text.length() && text.charAt(i) >= '0' && text.charAt(i) <= '9') i++;
            } else {
                i++;
            }
            String what = text.substring(from, i);
            if (!what.equals(" ")) found.add(new Token(from, what));
        }
        found.add(new Token(text.length(), ""));
        return found;
    }

    int loom() {
        List<Token> tokens = tokens(text.toString());
        text = new StringBuilder();
        int newColours = 0;
        int[] yarn = new int[0];
        List<int[]> newCards = new ArrayList<>();
        List<Integer> newPacks = new ArrayList<>();
        int i = 0;
        while (!tokens.get(i).what.isEmpty()) {
            Token word = tokens.get(i);
            int kind = "lcky".indexOf(word.what);
            if (kind < 0 || newColours == 0 && kind != 0) return fault(1, word.at);
            if (kind == 0 && newColours > 0) return fault(3, word.at);
            if (kind == 1 && newCards.size() == 8 || kind == 2 && newPacks.size() == 4) return fault(3, word.at);
            int[] numbers = new int[new int[] {1, 5, 1, 2}[kind]];
            for (int j = 0; j < numbers.length; j++) {
                Token number = tokens.get(i + 1 + j);
                if (!number.isNumber()) return fault(1, number.at);
                if (number.what.length() > 3) return fault(2, number.at);
                int v = Integer.parseInt(number.what);
                numbers[j] = v;
                boolean good = switch (kind) {
                    case 0 -> v >= 1 && v <= 8;
                    case 1 -> j < 4 ? v < newColours : v < 2;
                    case 2 -> v >= 1 && v <= 255 && v >> newCards.size() == 0;
                    default -> j > 0 || v < newColours;
                };
                if (!good) return fault(2, number.at);
                if (kind == 2) {
                    for (int other : newPacks) {
                        if ((other & v) != 0) return fault(4, number.at);
                    }
                }
            }
            Token end = tokens.get(i + 1 + numbers.length);
            if (!end.what.equals(";")) return fault(1, end.at);
            switch (kind) {
                case 0 -> {
                    newColours = numbers[0];
                    yarn = new int[newColours];
                    Arrays.fill(yarn, 500);
                }
                case 1 -> newCards.add(numbers);
                case 2 -> newPacks.add(numbers[0]);
                default -> yarn[numbers[0]] = numbers[1];
            }
            i += 2 + numbers.length;
        }
        faultAt = NONE;
        colours = newColours;
        cards = newCards;
        packs = newPacks;
        weave(yarn);
        deeds.clear();
        seen.clear();
        book.clear();
        images[0] = null;
        images[1] = null;
        return cards.size();
    }

    private int fault(int number, int at) {
        faultAt = at;
        return -10 - number;
    }

    int fault() {
        return faultAt;
    }

    private List<int[]> band() {
        int all = now.rows.size();
        return now.rows.subList(Math.max(0, all - 24), all);
    }

    int told(int what) {
        return switch (what) {
            case 0 -> colours;
            case 1 -> cards.size();
            case 2 -> packs.size();
            case 3 -> text.length();
            case 4 -> now.picks;
            case 5 -> band().size();
            case 6 -> (int) band().stream().filter(SlowBand::mirrored).count();
            case 7 -> period();
            case 8 -> longest();
            case 9 -> most();
            case 10 -> Arrays.stream(now.yarn).sum();
            case 11 -> seen.size();
            case 12 -> book.size();
            case 13 -> deeds.size();
            default -> OUTSIDE;
        };
    }

    private static boolean mirrored(int[] row) {
        int[] other = row.clone();
        for (int i = 0; i < row.length; i++) other[i] = row[row.length - 1 - i];
        return Arrays.equals(row, other);
    }

    private int period() {
        List<int[]> band = band();
        if (band.isEmpty()) return 0;
        for (int p = 1; ; p++) {
            boolean good = true;
            for (int i = p; i < band.size(); i++) good &= Arrays.equals(band.get(i), band.get(i - p));
            if (good) return p;
        }
    }

    private int longest() {
        if (band().isEmpty() || cards.isEmpty()) return NONE;
        int best = 0;
        for (int c = 1; c < cards.size(); c++) if (floats(c) > floats(best)) best = c;
        return best;
    }

    private int most() {
        int best = NONE;
        for (int k = colours - 1; k >= 0; k--) {
            if (shown(k) > 0 && (best == NONE || shown(k) >= shown(best))) best = k;
        }
        return best;
    }

    private boolean isCard(int c) {
        return c >= 0 && c < cards.size();
    }

    private boolean isColour(int k) {
        return k >= 0 && k < colours;
    }

    private int packOf(int c) {
        for (int k = 0; k < packs.size(); k++) if ((packs.get(k) >> c) % 2 == 1) return k;
        return NONE;
    }

    int card(int c, int what) {
        if (!isCard(c)) return UNKNOWN;
        if (what < 0 || what > 9) return OUTSIDE;
        int[] all = {0, 0, 0, 0, now.s[c], now.hole[c], now.twist[c] + 99, now.shows[c], now.slants[c], packOf(c)};
        return what < 4 ? cards.get(c)[what] : all[what];
    }

    int pack(int k) {
        return k >= 0 && k < packs.size() ? packs.get(k) : UNKNOWN;
    }

    int yarn(int k) {
        return isColour(k) ? now.yarn[k] : UNKNOWN;
    }

    int row(int i, int c) {
        if (!isCard(c)) return UNKNOWN;
        List<int[]> band = band();
        return i >= 0 && i < band.size() ? band.get(band.size() - 1 - i)[c] : NONE;
    }

    // ---- deeds

    private int figure(int moves, int k) {
        String figures = "0000" + Integer.toString(moves, 3);
        return figures.charAt(figures.length() - 1 - k) - '0';
    }

    private boolean badMoves(int moves) {
        if (moves < 0 || moves > 80) return true;
        for (int k = packs.size(); k < 4; k++) if (figure(moves, k) != 0) return true;
        return false;
    }

    /** Turns the CARDS whatever YARN and TWIST there are. */
    private void turn(State x, int moves) {
        for (int c = 0; c < cards.size(); c++) {
            int move = packOf(c) == NONE ? 0 : figure(moves, packOf(c));
            if (move == 1) {
                x.shows[c] = cards.get(c)[x.hole[c]];
                x.hole[c] = x.hole[c] == 3 ? 0 : x.hole[c] + 1;
                x.twist[c]++;
                x.slants[c] = x.s[c];
            }
            if (move == 2) {
                x.hole[c] = x.hole[c] == 0 ? 3 : x.hole[c] - 1;
                x.shows[c] = cards.get(c)[x.hole[c]];
                x.twist[c]--;
                x.slants[c] = x.s[c] == 0 ? 1 : 0;
            }
            if (move != 0) x.yarn[x.shows[c]]--;
        }
        x.rows.add(x.shows.clone());
        x.picks++;
    }

    private static boolean isGood(State x) {
        return Arrays.stream(x.yarn).allMatch(y -> y >= 0) && Arrays.stream(x.twist).allMatch(t -> Math.abs(t) <= 99);
    }

    private void remember() {
        deeds.add(now.copy());
        if (deeds.size() > 30) deeds.remove(0);
    }

    int pick(int moves, int n) {
        if (badMoves(moves) || n < 1 || n > 30) return OUTSIDE;
        State trial = now.copy();
        for (int i = 0; i < n; i++) turn(trial, moves);
        if (colours == 0 || !isGood(trial)) return NOT;
        if (now.picks > 9000) return FULL;
        for (int i = 0; i < n; i++) {
            remember();
            turn(now, moves);
        }
        return now.picks;
    }

    int flip(int c) {
        if (!isCard(c)) return UNKNOWN;
        remember();
        return now.s[c] ^= 1;
    }

    int shift(int c, int n) {
        if (!isCard(c)) return UNKNOWN;
        if (n < 0 || n > 3) return OUTSIDE;
        remember();
        return now.hole[c] = (now.hole[c] + n) % 4;
    }

    int buy(int k, int n) {
        if (!isColour(k)) return UNKNOWN;
        if (n < 1 || n > 999) return OUTSIDE;
        remember();
        return now.yarn[k] = Math.min(999, now.yarn[k] + n);
    }

    int drift(int n) {
        if (n < 1 || n > 30) return OUTSIDE;
        if (colours == 0) return NOT;
        if (now.picks > 9000) return FULL;
        for (int i = 0; i < n; i++) {
            remember();
            StringBuilder figures = new StringBuilder("0");
            for (int k = 0; k < packs.size(); k++) {
                seed = (seed * 1103515245L + 12345L) & (1L << 31) - 1;
                figures.insert(0, (seed >> 16) % 3);
            }
            figures.setLength(packs.size() + 1);
            String base3 = packs.isEmpty() ? "0" : figures.substring(0, packs.size());
            State trial = now.copy();
            turn(trial, Integer.parseInt(base3, 3));
            if (isGood(trial)) now = trial;
        }
        return now.picks;
    }

    int undo(int n) {
        if (n < 1 || n > 30) return OUTSIDE;
        if (n > deeds.size()) return NOT;
        for (int i = 0; i < n; i++) now = deeds.remove(deeds.size() - 1);
        return now.picks;
    }

    // ---- tried

    int ahead(int c, int n, int way) {
        if (!isCard(c)) return UNKNOWN;
        if (n < 1 || n > 99 || way < 0 || way > 1) return OUTSIDE;
        int hole = now.hole[c];
        int shows = NONE;
        for (int i = 0; i < n; i++) {
            if (way == 0) {
                shows = cards.get(c)[hole];
                hole = (hole + 1) % 4;
            } else {
                hole = (hole + 3) % 4;
                shows = cards.get(c)[hole];
            }
        }
        return shows;
    }

    int lasts(int moves, int what) {
        if (badMoves(moves) || what < 0 || what > 1) return OUTSIDE;
        if (colours == 0) return NOT;
        State x = now.copy();
        for (int i = 0; i < 99; i++) {
            turn(x, moves);
            if (!isGood(x)) {
                int lacking = NONE;
                for (int k = colours - 1; k >= 0; k--) if (x.yarn[k] < 0) lacking = k;
                return what == 0 ? i : lacking;
            }
        }
        return what == 0 ? 99 : NONE;
    }

    private int allMoves() {
        return (int) Math.round(Math.pow(3, packs.size()));
    }

    int untwist(int what) {
        if (what < 0 || what > 1) return OUTSIDE;
        if (colours == 0) return NOT;
        int worst = 0;
        for (int t : now.twist) worst = Math.max(worst, Math.abs(t));
        if (what == 0) return worst;
        // the one MOVES by which each twist comes nearer to nothing
        for (int moves = 0; moves < allMoves(); moves++) {
            State x = now.copy();
            turn(x, moves);
            boolean good = true;
            for (int c = 0; c < cards.size(); c++) {
                good &= Math.abs(x.twist[c]) == Math.max(0, Math.abs(now.twist[c]) - 1)
                    && (now.twist[c] != 0 || packOf(c) == NONE || figure(moves, packOf(c)) == 0);
            }
            if (good) return moves;
        }
        return NONE;
    }

    private boolean isHome(State x) {
        for (int c = 0; c < cards.size(); c++) if (packOf(c) != NONE && x.hole[c] != 0) return false;
        return true;
    }

    int home(int what) {
        if (what < 0 || what > 1) return OUTSIDE;
        if (colours == 0) return NOT;
        for (int c = 0; c < cards.size(); c++) {
            for (int d = 0; d < c; d++) {
                if (packOf(c) != NONE && packOf(c) == packOf(d) && now.hole[c] != now.hole[d]) return NONE;
            }
        }
        int count = search(now, 4, null, 0);
        if (what == 0 || count == 0) return count;
        int moves = 0;
        for (int k = packs.size() - 1; k >= 0; k--) {
            int c = Integer.numberOfTrailingZeros(packs.get(k));
            moves = moves * 3 + new int[] {0, 2, 1, 1}[now.hole[c]];
        }
        State x = now.copy();
        turn(x, moves);
        return search(x, count - 1, null, 0) == count - 1 ? moves : -77;
    }

    private boolean isEnd(State x, Integer set, int colour) {
        if (set == null) return isHome(x);
        for (int c = 0; c < cards.size(); c++) if ((set >> c) % 2 == 1 && x.shows[c] != colour) return false;
        return true;
    }

    /** The fewest PICKS, at most so many, to the end; NONE. Ends are: home, or all of a SET show a COLOUR. */
    private int search(State from, int most, Integer set, int colour) {
        List<State> layer = new ArrayList<>();
        Set<String> met = new HashSet<>();
        layer.add(from);
        for (int depth = 0; depth <= most; depth++) {
            List<State> next = new ArrayList<>();
            for (State x : layer) {
                if (isEnd(x, set, colour)) return depth;
                for (int moves = 0; moves < allMoves() && depth < most; moves++) {
                    State y = x.copy();
                    y.rows.clear();
                    turn(y, moves);
                    if (met.add(Arrays.toString(y.hole) + Arrays.toString(y.shows))) next.add(y);
                }
            }
            layer = next;
        }
        return NONE;
    }

    int together(int set, int colour, int what) {
        if (set < 0 || set >= 1 << cards.size() || !isColour(colour)) return UNKNOWN;
        if (what < 0 || what > 1) return OUTSIDE;
        if (colours == 0) return NOT;
        int count = search(now, packs.size() < 4 ? 5 : 2, set, colour);
        if (what == 0 || count <= 0) return count;
        for (int moves = 0; moves < allMoves(); moves++) {
            State x = now.copy();
            turn(x, moves);
            if (search(x, count - 1, set, colour) != NONE) return moves;
        }
        return -77;
    }

    int repeat() {
        if (colours == 0) return NOT;
        for (int p = 1; p < 4; p *= 2) {
            boolean good = true;
            for (int[] card : cards) for (int h = 0; h < 4; h++) good &= card[h] == card[(h + p) % 4];
            if (good) return p;
        }
        return 4;
    }

    int floats(int c) {
        if (!isCard(c)) return UNKNOWN;
        List<int[]> band = band();
        int best = 0;
        for (int from = 0; from < band.size(); from++) {
            for (int to = from; to < band.size(); to++) {
                Set<Integer> colour = new LinkedHashSet<>();
                for (int i = from; i <= to; i++) colour.add(band.get(i)[c]);
                if (colour.size() == 1 && !colour.contains(NONE)) best = Math.max(best, to - from + 1);
            }
        }
        return best;
    }

    int alike(int i) {
        List<Integer> pairs = new ArrayList<>();
        for (int pair = 0; pair < 80; pair++) {
            int a = pair / 10;
            int b = pair % 10;
            if (a < b && b < cards.size() && band().stream().allMatch(row -> row[a] == row[b])) pairs.add(pair);
        }
        if (i == NONE) return pairs.size();
        return i >= 0 && i < pairs.size() ? pairs.get(i) : NONE;
    }

    int shown(int k) {
        if (!isColour(k)) return UNKNOWN;
        return (int) band().stream().flatMapToInt(Arrays::stream).filter(v -> v == k).count();
    }

    int turned(int c, int i) {
        if (!isCard(c)) return UNKNOWN;
        if (i < 0 || i > 22) return OUTSIDE;
        if (i + 2 > band().size()) return NOT;
        int y = row(i, c);
        int x = row(i + 1, c);
        int[] holes = cards.get(c);
        Set<Integer> ways = new HashSet<>();
        if (x == y) ways.add(1);
        for (int h = 0; h < 4; h++) {
            if (holes[h] != y) continue;
            if (x == NONE || x == holes[h] || x == holes[(h + 3) % 4]) ways.add(2);
            if (x == NONE || x == holes[h] || x == holes[(h + 1) % 4]) ways.add(4);
        }
        return ways.stream().mapToInt(w -> w).sum();
    }

    int share(int x, int k) {
        if (k != NONE && !isColour(k)) return UNKNOWN;
        if (x < 0 || x > 999) return OUTSIDE;
        int left = x;
        int[] shares = new int[colours];
        for (int colour = 0; colour < colours && !cards.isEmpty(); colour++) {
            int count = 0;
            for (int[] card : cards) for (int h = 0; h < 4; h++) count += card[h] == colour ? 1 : 0;
            shares[colour] = x * count / (4 * cards.size());
            left -= shares[colour];
        }
        return k == NONE ? left : shares[k];
    }

    int plain(int n, int q) {
        if (n < 0 || n > 60 || q < 0 || q > 100) return OUTSIDE;
        long v = 1000000000L;
        while (n-- > 0) v = v * q / 100;
        return (int) v;
    }

    // ---- what was seen

    int see(int c, int n, int colour) {
        if (!isCard(c) || !isColour(colour)) return UNKNOWN;
        if (n < 1 || n > 99) return OUTSIDE;
        if (seen.size() == 8) return FULL;
        seen.add(new int[] {c, n, colour});
        return seen.size();
    }

    private int showsFrom(int c, int hole, int n) {
        int shows = NONE;
        for (int i = 0; i < n; i++) {
            shows = cards.get(c)[hole];
            hole = (hole + 1) % 4;
        }
        return shows;
    }

    int holes(int c) {
        if (!isCard(c)) return UNKNOWN;
        int set = 0;
        for (int h = 0; h < 4; h++) {
            int hole = h;
            if (seen.stream().allMatch(e -> e[0] != c || showsFrom(c, hole, e[1]) == e[2])) set += 1 << h;
        }
        return set;
    }

    int lookAt(int c) {
        if (!isCard(c)) return UNKNOWN;
        int set = holes(c);
        int best = NONE;
        int least = Integer.bitCount(set);
        for (int n = 1; n <= 4; n++) {
            int[] parts = new int[colours];
            for (int h = 0; h < 4; h++) if ((set >> h) % 2 == 1) parts[showsFrom(c, h, n)]++;
            int greatest = Arrays.stream(parts).max().orElse(0);
            if (greatest < least) {
                least = greatest;
                best = n;
            }
        }
        return best;
    }

    int write(int c, int colour) {
        if (!isCard(c) || colour != NONE && !isColour(colour)) return UNKNOWN;
        if (book.size() == 20) return FULL;
        book.add(new int[] {c, colour});
        return book.size();
    }

    int judge() {
        for (int[] entry : book) if (now.shows[entry[0]] != entry[1]) return book.indexOf(entry);
        return NONE;
    }

    int tear() {
        int both = seen.size() + book.size();
        seen.clear();
        book.clear();
        return both;
    }

    // ---- images

    int seed(int v) {
        if (v < 0) return OUTSIDE;
        int before = (int) seed;
        seed = v;
        return before;
    }

    int keep(int i) {
        if (i < 0 || i > 1) return UNKNOWN;
        images[i] = now.copy();
        imageSeeds[i] = seed;
        deeds.clear();
        return 1;
    }

    int goBack(int i) {
        if (i < 0 || i > 1) return UNKNOWN;
        if (images[i] == null) return NOT;
        now = images[i].copy();
        seed = imageSeeds[i];
        deeds.clear();
        return 1;
    }
}
