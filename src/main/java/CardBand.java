import java.util.Arrays;

/**
 * Bands woven with square cards of four holes. What every call answers is told
 * by the numbered promises of ../shared/DOC.md; the words here are its words.
 */
public final class CardBand {
    public static final int NONE = -1, UNKNOWN = -1000000001, OUTSIDE = -1000000002, NOT = -1000000003, FULL = -1000000004;

    private static final int TEXT_MAX = 240, COLOURS_MAX = 8, CARDS_MAX = 8, PACKS_MAX = 4;
    private static final int YARN_MAX = 999, YARN_UNTOLD = 500, TWIST_MAX = 99, ROWS_MAX = 24;
    private static final int TIMES_MAX = 30, PICKS_MAX = 9000, DEEDS_MAX = 30, MANY_PICKS = 99;
    private static final int SEEN_MAX = 8, BOOK_MAX = 20, IMAGES_MAX = 2, ODDS_MAX = 60;
    private static final int HOLES_MAX = 4, HOLE_BITS = 3, ALL_HOLES = 15, CARD_BITS = 7;
    private static final int STILL = 0, FORWARD = 1, BACK = 2, FIGURES = 3;
    private static final int CANNOT_STAND = 1, BAD_NUMBER = 2, ONE_TOO_MANY = 3, IN_A_PACK_ALREADY = 4;
    private static final long BILLION = 1000000000L, SEEDS = 2147483648L;

    private final Telling text = new Telling();
    private final Weave weave = new Weave();
    private final Weave trial = new Weave();
    private final Deeds deeds = new Deeds();
    private final Notes notes = new Notes();
    private final Image[] images = new Image[IMAGES_MAX];
    private Threading threading = new Threading();
    private Threading spare = new Threading();
    private long drawn;

    public CardBand() {
        for (int i = 0; i < images.length; i++) {
            images[i] = new Image();
        }
    }

    // ---- the loom

    public int feed(int letter) {
        if (letter < 0 || letter > 255) {
            return OUTSIDE;
        }
        if (!text.append(letter)) {
            return FULL;
        }
        return text.length;
    }

    public int loom() {
        boolean readable = text.readInto(spare);
        text.length = 0;
        if (!readable) {
            return -10 - text.faultNumber;
        }
        Threading read = spare;
        spare = threading;
        threading = read;
        weave.begin(threading);
        deeds.forget();
        notes.forget();
        forgetImages();
        return threading.cards;
    }

    public int fault() {
        return text.faultPlace;
    }

    public int told(int what) {
        switch (what) {
            case 0: return threading.colours;
            case 1: return threading.cards;
            case 2: return threading.packs;
            case 3: return text.length;
            case 4: return weave.picks;
            case 5: return weave.countRows();
            case 6: return Band.countMirrored(weave, threading.cards);
            case 7: return Band.findPeriod(weave, threading.cards);
            case 8: return Band.findLongest(weave, threading.cards);
            case 9: return Band.findMost(weave, threading);
            case 10: return weave.sumYarn(threading.colours);
            case 11: return notes.seenCount;
            case 12: return notes.bookCount;
            case 13: return deeds.count;
            default: return OUTSIDE;
        }
    }

    public int card(int c, int what) {
        if (!threading.hasCard(c)) {
            return UNKNOWN;
        }
        if (what >= 0 && what < HOLES_MAX) {
            return threading.colourAt(c, what);
        }
        switch (what) {
            case 4: return weave.ways[c];
            case 5: return weave.stands[c];
            case 6: return weave.twists[c] + TWIST_MAX;
            case 7: return weave.shows[c];
            case 8: return weave.slants[c];
            case 9: return threading.packOf[c];
            default: return OUTSIDE;
        }
    }

    public int pack(int k) {
        return threading.hasPack(k) ? threading.packSets[k] : UNKNOWN;
    }

    public int yarn(int k) {
        return threading.hasColour(k) ? weave.yarns[k] : UNKNOWN;
    }

    public int row(int i, int c) {
        return threading.hasCard(c) ? weave.showedAt(i, c) : UNKNOWN;
    }

    // ---- deeds

    public int pick(int moves, int n) {
        if (!threading.takesMoves(moves) || n < 1 || n > TIMES_MAX) {
            return OUTSIDE;
        }
        if (!threading.isMade() || countPicks(moves, n) < n) {
            return NOT;
        }
        if (weave.picks > PICKS_MAX) {
            return FULL;
        }
        for (int i = 0; i < n; i++) {
            deeds.remember(weave);
            weave.weaveOnce(threading, moves);
        }
        return weave.picks;
    }

    public int flip(int c) {
        if (!threading.hasCard(c)) {
            return UNKNOWN;
        }
        deeds.remember(weave);
        weave.ways[c] = 1 - weave.ways[c];
        return weave.ways[c];
    }

    public int shift(int c, int n) {
        if (!threading.hasCard(c)) {
            return UNKNOWN;
        }
        if (n < 0 || n >= HOLES_MAX) {
            return OUTSIDE;
        }
        deeds.remember(weave);
        weave.stands[c] = (weave.stands[c] + n) & HOLE_BITS;
        return weave.stands[c];
    }

    public int buy(int k, int n) {
        if (!threading.hasColour(k)) {
            return UNKNOWN;
        }
        if (n < 1 || n > YARN_MAX) {
            return OUTSIDE;
        }
        deeds.remember(weave);
        weave.yarns[k] = Math.min(YARN_MAX, weave.yarns[k] + n);
        return weave.yarns[k];
    }

    public int drift(int n) {
        if (n < 1 || n > TIMES_MAX) {
            return OUTSIDE;
        }
        if (!threading.isMade()) {
            return NOT;
        }
        if (weave.picks > PICKS_MAX) {
            return FULL;
        }
        for (int i = 0; i < n; i++) {
            // a time counts as a deed though its PICK can't be
            deeds.remember(weave);
            weave.weaveOnce(threading, drawMoves());
        }
        return weave.picks;
    }

    public int undo(int n) {
        if (n < 1 || n > DEEDS_MAX) {
            return OUTSIDE;
        }
        return deeds.takeBack(n, weave) ? weave.picks : NOT;
    }

    // ---- tried

    public int ahead(int c, int n, int way) {
        if (!threading.hasCard(c)) {
            return UNKNOWN;
        }
        if (n < 1 || n > MANY_PICKS || way < 0 || way > 1) {
            return OUTSIDE;
        }
        int hole = way == 0 ? weave.stands[c] + n - 1 : weave.stands[c] - n;
        return threading.colourAt(c, hole);
    }

    public int lasts(int moves, int what) {
        if (!threading.takesMoves(moves) || !isHowOrMoves(what)) {
            return OUTSIDE;
        }
        if (!threading.isMade()) {
            return NOT;
        }
        int count = countPicks(moves, MANY_PICKS);
        if (what == 0) {
            return count;
        }
        // behind countPicks() the trial stands where no further PICK can be
        return count == MANY_PICKS ? NONE : trial.findLacking(threading, moves);
    }

    public int untwist(int what) {
        if (!isHowOrMoves(what)) {
            return OUTSIDE;
        }
        if (!threading.isMade()) {
            return NOT;
        }
        return what == 0 ? Trying.countUntwist(weave, threading) : Trying.firstUntwist(weave, threading);
    }

    public int home(int what) {
        if (!isHowOrMoves(what)) {
            return OUTSIDE;
        }
        if (!threading.isMade()) {
            return NOT;
        }
        if (!Trying.packsStandAlike(weave, threading)) {
            return NONE;
        }
        return what == 0 ? Trying.countHome(weave, threading) : Trying.firstHome(weave, threading);
    }

    public int together(int set, int colour, int what) {
        if (!threading.hasCards(set) || !threading.hasColour(colour)) {
            return UNKNOWN;
        }
        if (!isHowOrMoves(what)) {
            return OUTSIDE;
        }
        if (!threading.isMade()) {
            return NOT;
        }
        int count = Trying.countTogether(weave, threading, set, colour);
        if (what == 0 || count == NONE) {
            return count;
        }
        return Trying.firstTogether(weave, threading, set, colour, count);
    }

    public int repeat() {
        if (!threading.isMade()) {
            return NOT;
        }
        if (threading.isSameAfter(1)) {
            return 1;
        }
        return threading.isSameAfter(2) ? 2 : HOLES_MAX;
    }

    public int floats(int c) {
        return threading.hasCard(c) ? Band.findFloat(weave, c) : UNKNOWN;
    }

    public int alike(int i) {
        return Band.findAlike(weave, threading.cards, i);
    }

    public int shown(int k) {
        return threading.hasColour(k) ? Band.countShown(weave, threading.cards, k) : UNKNOWN;
    }

    public int turned(int c, int i) {
        if (!threading.hasCard(c)) {
            return UNKNOWN;
        }
        if (i < 0 || i > ROWS_MAX - 2) {
            return OUTSIDE;
        }
        if (i + 1 >= weave.countRows()) {
            return NOT;
        }
        return Band.findTurns(threading, c, weave.showedAt(i, c), weave.showedAt(i + 1, c));
    }

    public int share(int x, int k) {
        if (k != NONE && !threading.hasColour(k)) {
            return UNKNOWN;
        }
        if (x < 0 || x > YARN_MAX) {
            return OUTSIDE;
        }
        return k == NONE ? threading.countLeftOver(x) : threading.shareOf(x, k);
    }

    public int plain(int n, int q) {
        if (n < 0 || n > ODDS_MAX || q < 0 || q > 100) {
            return OUTSIDE;
        }
        long odds = BILLION;
        for (int i = 0; i < n; i++) {
            odds = odds * q / 100;
        }
        return (int) odds;
    }

    // ---- what was seen

    public int see(int c, int n, int colour) {
        if (!threading.hasCard(c) || !threading.hasColour(colour)) {
            return UNKNOWN;
        }
        if (n < 1 || n > MANY_PICKS) {
            return OUTSIDE;
        }
        return notes.addSeen(c, n, colour) ? notes.seenCount : FULL;
    }

    public int holes(int c) {
        return threading.hasCard(c) ? notes.findHoles(threading, c) : UNKNOWN;
    }

    public int lookAt(int c) {
        return threading.hasCard(c) ? notes.findLook(threading, c) : UNKNOWN;
    }

    public int write(int c, int colour) {
        if (!threading.hasCard(c) || colour != NONE && !threading.hasColour(colour)) {
            return UNKNOWN;
        }
        return notes.addEntry(c, colour) ? notes.bookCount : FULL;
    }

    public int judge() {
        return notes.findWrong(weave);
    }

    public int tear() {
        int both = notes.seenCount + notes.bookCount;
        notes.forget();
        return both;
    }

    // ---- images

    public int seed(int v) {
        if (v < 0) {
            return OUTSIDE;
        }
        int before = (int) drawn;
        drawn = v;
        return before;
    }

    public int keep(int i) {
        Image image = imageAt(i);
        if (image == null) {
            return UNKNOWN;
        }
        image.weave.become(weave);
        image.drawn = drawn;
        image.kept = true;
        deeds.forget();
        return 1;
    }

    public int goBack(int i) {
        Image image = imageAt(i);
        if (image == null) {
            return UNKNOWN;
        }
        if (!image.kept) {
            return NOT;
        }
        weave.become(image.weave);
        drawn = image.drawn;
        deeds.forget();
        return 1;
    }

    // ---- helpers of the calls

    private Image imageAt(int i) {
        return i >= 0 && i < images.length ? images[i] : null;
    }

    private void forgetImages() {
        for (int i = 0; i < images.length; i++) {
            Image image = images[i];
            if (image != null) {
                image.kept = false;
            }
        }
    }

    private static boolean isHowOrMoves(int what) {
        return what == 0 || what == 1;
    }

    /** How many PICKS, at most as many as are told, can be made; the trial stands behind them. */
    private int countPicks(int moves, int most) {
        trial.become(weave);
        int count = 0;
        while (count < most && trial.weaveOnce(threading, moves)) {
            count++;
        }
        return count;
    }

    private int drawMoves() {
        int moves = 0;
        int worth = 1;
        for (int k = 0; k < threading.packs; k++) {
            moves += drawFigure() * worth;
            worth *= FIGURES;
        }
        return moves;
    }

    private int drawFigure() {
        drawn = (drawn * 1103515245L + 12345L) % SEEDS;
        return (int) (drawn / 65536L % FIGURES);
    }

    /** What an IMAGE keeps. */
    private static final class Image {
        final Weave weave = new Weave();
        long drawn;
        boolean kept;
    }

    /** THE LOOM as it was told: what no deed changes. */
    private static final class Threading {
        final int[] holeColours = new int[CARDS_MAX * HOLES_MAX];
        final int[] waysTold = new int[CARDS_MAX];
        final int[] packOf = new int[CARDS_MAX];
        final int[] packSets = new int[PACKS_MAX];
        final int[] yarnsTold = new int[COLOURS_MAX];
        int colours;
        int cards;
        int packs;
        int cardsInPacks;

        void clear() {
            colours = 0;
            cards = 0;
            packs = 0;
            cardsInPacks = 0;
            Arrays.fill(packOf, NONE);
            Arrays.fill(yarnsTold, YARN_UNTOLD);
        }

        boolean isMade() {
            return colours > 0;
        }

        boolean hasColour(int k) {
            return k >= 0 && k < colours;
        }

        boolean hasCard(int c) {
            return c >= 0 && c < cards;
        }

        boolean hasPack(int k) {
            return k >= 0 && k < packs;
        }

        boolean hasCards(int set) {
            return set >= 0 && set < 1 << cards;
        }

        /** MOVES are out of their bounds, too, if a PACK that there is not has a figure. */
        boolean takesMoves(int moves) {
            int bound = 1;
            for (int k = 0; k < packs; k++) {
                bound *= FIGURES;
            }
            return moves >= 0 && moves < bound;
        }

        void addCard(int way) {
            if (cards < CARDS_MAX) {
                waysTold[cards] = way;
                cards++;
            }
        }

        void addPack(int set) {
            if (packs >= PACKS_MAX) {
                return;
            }
            for (int c = 0; c < cards; c++) {
                if ((set >> c & 1) == 1) {
                    packOf[c] = packs;
                }
            }
            packSets[packs] = set;
            cardsInPacks |= set;
            packs++;
        }

        void threadHole(int c, int hole, int colour) {
            holeColours[indexOf(c, hole)] = colour;
        }

        /** A hole over 3 or below 0 is counted round the CARD. */
        int colourAt(int c, int hole) {
            return holeColours[indexOf(c, hole)];
        }

        private static int indexOf(int c, int hole) {
            return (c & CARD_BITS) * HOLES_MAX + (hole & HOLE_BITS);
        }

        int moveOf(int c, int moves) {
            int pack = packOf[c & CARD_BITS];
            if (pack == NONE) {
                return STILL;
            }
            int rest = moves;
            for (int k = 0; k < pack; k++) {
                rest /= FIGURES;
            }
            return rest % FIGURES;
        }

        boolean isInPack(int c, int k) {
            return packOf[c & CARD_BITS] == k;
        }

        boolean isSameAfter(int picks) {
            for (int c = 0; c < cards; c++) {
                for (int hole = 0; hole < HOLES_MAX; hole++) {
                    if (colourAt(c, hole) != colourAt(c, hole + picks)) {
                        return false;
                    }
                }
            }
            return true;
        }

        int shareOf(int x, int colour) {
            if (cards == 0) {
                return 0;
            }
            int count = 0;
            for (int i = 0; i < cards * HOLES_MAX; i++) {
                if (holeColours[i] == colour) {
                    count++;
                }
            }
            return x * count / (cards * HOLES_MAX);
        }

        int countLeftOver(int x) {
            int left = x;
            for (int k = 0; k < colours; k++) {
                left -= shareOf(x, k);
            }
            return left;
        }
    }

    /** THE TEXT, and its reading: the first FAULT ends it. */
    private static final class Telling {
        private static final int BLANK = ' ', END = ';';

        final int[] letters = new int[TEXT_MAX];
        int length;
        int place;
        int numberPlace;
        int faultNumber;
        int faultPlace = NONE;

        boolean append(int letter) {
            if (length >= TEXT_MAX) {
                return false;
            }
            letters[length] = letter;
            length++;
            return true;
        }

        boolean readInto(Threading told) {
            place = 0;
            faultNumber = 0;
            faultPlace = NONE;
            told.clear();
            skipBlanks();
            // each clause has a letter at least
            for (int i = 0; i < TEXT_MAX && place < length && faultNumber == 0; i++) {
                readClause(told);
                skipBlanks();
            }
            return faultNumber == 0;
        }

        private void readClause(Threading told) {
            int word = letterHere();
            if (!isWord(word) || told.colours == 0 && word != 'l') {
                setFault(CANNOT_STAND, place);
                return;
            }
            if (isOneTooMany(word, told)) {
                setFault(ONE_TOO_MANY, place);
                return;
            }
            place++;
            switch (word) {
                case 'l': readColours(told); break;
                case 'c': readCard(told); break;
                case 'k': readPack(told); break;
                default: readYarn(told); break;
            }
            if (faultNumber == 0) {
                readEnd();
            }
        }

        private static boolean isWord(int letter) {
            return letter == 'l' || letter == 'c' || letter == 'k' || letter == 'y';
        }

        private static boolean isOneTooMany(int word, Threading told) {
            return word == 'l' && told.colours > 0
                || word == 'c' && told.cards >= CARDS_MAX
                || word == 'k' && told.packs >= PACKS_MAX;
        }

        private void readColours(Threading told) {
            int number = readNumber(1, COLOURS_MAX);
            if (number != NONE) {
                told.colours = number;
            }
        }

        private void readCard(Threading told) {
            for (int hole = 0; hole < HOLES_MAX; hole++) {
                int colour = readNumber(0, told.colours - 1);
                if (colour == NONE) {
                    return;
                }
                told.threadHole(told.cards, hole, colour);
            }
            int way = readNumber(0, 1);
            if (way != NONE) {
                told.addCard(way);
            }
        }

        private void readPack(Threading told) {
            // a set beyond this bound has bits of CARDS that were not told
            int set = readNumber(1, (1 << told.cards) - 1);
            if (set == NONE) {
                return;
            }
            if ((set & told.cardsInPacks) != 0) {
                setFault(IN_A_PACK_ALREADY, numberPlace);
                return;
            }
            told.addPack(set);
        }

        private void readYarn(Threading told) {
            int colour = readNumber(0, told.colours - 1);
            if (colour == NONE) {
                return;
            }
            int amount = readNumber(0, YARN_MAX);
            if (amount != NONE && colour < COLOURS_MAX) {
                told.yarnsTold[colour] = amount;
            }
        }

        private void readEnd() {
            skipBlanks();
            if (letterHere() != END) {
                setFault(CANNOT_STAND, place);
                return;
            }
            place++;
        }

        /** The number that stands here; NONE with a FAULT set, if it can't stand. */
        private int readNumber(int least, int most) {
            skipBlanks();
            if (!isFigure(letterHere())) {
                setFault(CANNOT_STAND, place);
                return NONE;
            }
            numberPlace = place;
            int number = 0;
            while (place < length && isFigure(letterHere())) {
                // a longer number is a FAULT anyway and must not grow beyond an int
                if (place - numberPlace < 3) {
                    number = number * 10 + letterHere() - '0';
                }
                place++;
            }
            if (place - numberPlace > 3 || number < least || number > most) {
                setFault(BAD_NUMBER, numberPlace);
                return NONE;
            }
            return number;
        }

        private static boolean isFigure(int letter) {
            return letter >= '0' && letter <= '9';
        }

        private void skipBlanks() {
            while (place < length && letterHere() == BLANK) {
                place++;
            }
        }

        private int letterHere() {
            return place >= 0 && place < length && place < TEXT_MAX ? letters[place] : NONE;
        }

        private void setFault(int number, int at) {
            faultNumber = number;
            faultPlace = at;
        }
    }

    /** All of section 2: how the CARDS stand, the YARN, THE BAND. */
    private static final class Weave {
        final int[] ways = new int[CARDS_MAX];
        final int[] stands = new int[CARDS_MAX];
        final int[] twists = new int[CARDS_MAX];
        final int[] shows = new int[CARDS_MAX];
        final int[] slants = new int[CARDS_MAX];
        final int[] yarns = new int[COLOURS_MAX];
        final int[] wanted = new int[COLOURS_MAX];
        final int[] band = new int[ROWS_MAX * CARDS_MAX];
        int picks;

        void begin(Threading told) {
            System.arraycopy(told.waysTold, 0, ways, 0, CARDS_MAX);
            System.arraycopy(told.yarnsTold, 0, yarns, 0, COLOURS_MAX);
            Arrays.fill(stands, 0);
            Arrays.fill(twists, 0);
            Arrays.fill(shows, NONE);
            Arrays.fill(slants, NONE);
            picks = 0;
        }

        void become(Weave other) {
            System.arraycopy(other.ways, 0, ways, 0, CARDS_MAX);
            System.arraycopy(other.stands, 0, stands, 0, CARDS_MAX);
            System.arraycopy(other.twists, 0, twists, 0, CARDS_MAX);
            System.arraycopy(other.shows, 0, shows, 0, CARDS_MAX);
            System.arraycopy(other.slants, 0, slants, 0, CARDS_MAX);
            System.arraycopy(other.yarns, 0, yarns, 0, COLOURS_MAX);
            System.arraycopy(other.band, 0, band, 0, ROWS_MAX * CARDS_MAX);
            picks = other.picks;
        }

        int sumYarn(int colours) {
            int sum = 0;
            for (int k = 0; k < colours && k < COLOURS_MAX; k++) {
                sum += yarns[k];
            }
            return sum;
        }

        /** A PICK, if it can be; else nothing changes. */
        boolean weaveOnce(Threading told, int moves) {
            if (isOvertwisted(told, moves) || findLacking(told, moves) != NONE) {
                return false;
            }
            for (int c = 0; c < told.cards && c < CARDS_MAX; c++) {
                turnCard(told, c, told.moveOf(c, moves));
            }
            addRow();
            return true;
        }

        private boolean isOvertwisted(Threading told, int moves) {
            for (int c = 0; c < told.cards && c < CARDS_MAX; c++) {
                int move = told.moveOf(c, moves);
                if (move == FORWARD && twists[c] >= TWIST_MAX || move == BACK && twists[c] <= -TWIST_MAX) {
                    return true;
                }
            }
            return false;
        }

        /** The least COLOUR whose YARN does not do for a PICK; NONE. */
        int findLacking(Threading told, int moves) {
            countWanted(told, moves);
            for (int k = 0; k < told.colours && k < COLOURS_MAX; k++) {
                if (wanted[k] > yarns[k]) {
                    return k;
                }
            }
            return NONE;
        }

        private void countWanted(Threading told, int moves) {
            Arrays.fill(wanted, 0);
            for (int c = 0; c < told.cards && c < CARDS_MAX; c++) {
                int move = told.moveOf(c, moves);
                int colour = told.colourAt(c, holeShownBy(c, move));
                if (move != STILL && colour >= 0 && colour < COLOURS_MAX) {
                    wanted[colour]++;
                }
            }
        }

        private int holeShownBy(int c, int move) {
            int hole = stands[c & CARD_BITS];
            return move == BACK ? (hole - 1) & HOLE_BITS : hole;
        }

        private void turnCard(Threading told, int c, int move) {
            if (move == STILL || c < 0 || c >= CARDS_MAX) {
                return;
            }
            int hole = holeShownBy(c, move);
            int colour = told.colourAt(c, hole);
            if (move == FORWARD) {
                stands[c] = (hole + 1) & HOLE_BITS;
                twists[c]++;
                slants[c] = ways[c];
            } else {
                stands[c] = hole;
                twists[c]--;
                slants[c] = 1 - ways[c];
            }
            shows[c] = colour;
            if (colour >= 0 && colour < COLOURS_MAX) {
                yarns[colour]--;
            }
        }

        private void addRow() {
            System.arraycopy(shows, 0, band, slotOf(picks), CARDS_MAX);
            picks++;
        }

        /** Where a PICK's ROW lies: a ROW takes the place of the one 24 PICKS ahead of it. */
        private static int slotOf(int pick) {
            return Math.floorMod(pick, ROWS_MAX) * CARDS_MAX;
        }

        /** Each PICK gives a ROW, so the PICKS tell how many there are. */
        int countRows() {
            return Math.min(picks, ROWS_MAX);
        }

        int showedAt(int i, int c) {
            if (i < 0 || i >= countRows() || c < 0 || c >= CARDS_MAX) {
                return NONE;
            }
            return band[slotOf(picks - 1 - i) + c];
        }
    }

    /** What could be undone: section 2 ahead of each of the latest deeds. */
    private static final class Deeds {
        final Weave[] before = new Weave[DEEDS_MAX];
        int next;
        int count;

        Deeds() {
            for (int i = 0; i < before.length; i++) {
                before[i] = new Weave();
            }
        }

        void forget() {
            count = 0;
        }

        void remember(Weave now) {
            Weave oldest = weaveAt(next);
            if (oldest == null) {
                return;
            }
            oldest.become(now);
            next = (next + 1) % DEEDS_MAX;
            count = Math.min(DEEDS_MAX, count + 1);
        }

        boolean takeBack(int n, Weave now) {
            int at = Math.floorMod(next - n, DEEDS_MAX);
            Weave then = weaveAt(at);
            if (n > count || then == null) {
                return false;
            }
            now.become(then);
            next = at;
            count -= n;
            return true;
        }

        private Weave weaveAt(int i) {
            return i >= 0 && i < before.length ? before[i] : null;
        }
    }

    /** What can be read off THE BAND. */
    private static final class Band {
        static int countMirrored(Weave weave, int cards) {
            int count = 0;
            for (int i = 0; i < weave.countRows(); i++) {
                if (isMirrored(weave, cards, i)) {
                    count++;
                }
            }
            return count;
        }

        private static boolean isMirrored(Weave weave, int cards, int i) {
            for (int c = 0; c < cards / 2; c++) {
                if (weave.showedAt(i, c) != weave.showedAt(i, cards - 1 - c)) {
                    return false;
                }
            }
            return true;
        }

        static int findPeriod(Weave weave, int cards) {
            int rows = weave.countRows();
            for (int p = 1; p < rows; p++) {
                if (isPeriod(weave, cards, p)) {
                    return p;
                }
            }
            return rows;
        }

        private static boolean isPeriod(Weave weave, int cards, int p) {
            for (int i = 0; i + p < weave.countRows(); i++) {
                for (int c = 0; c < cards; c++) {
                    if (weave.showedAt(i, c) != weave.showedAt(i + p, c)) {
                        return false;
                    }
                }
            }
            return true;
        }

        static int findFloat(Weave weave, int c) {
            int longest = 0;
            int length = 0;
            for (int i = 0; i < weave.countRows(); i++) {
                int colour = weave.showedAt(i, c);
                if (colour == NONE) {
                    length = 0;
                } else {
                    length = colour == weave.showedAt(i - 1, c) ? length + 1 : 1;
                }
                longest = Math.max(longest, length);
            }
            return longest;
        }

        static int findLongest(Weave weave, int cards) {
            if (weave.countRows() == 0) {
                return NONE;
            }
            int best = NONE;
            int longest = NONE;
            for (int c = 0; c < cards; c++) {
                int length = findFloat(weave, c);
                if (length > longest) {
                    longest = length;
                    best = c;
                }
            }
            return best;
        }

        static int countShown(Weave weave, int cards, int colour) {
            int count = 0;
            for (int i = 0; i < weave.countRows(); i++) {
                for (int c = 0; c < cards; c++) {
                    if (weave.showedAt(i, c) == colour) {
                        count++;
                    }
                }
            }
            return count;
        }

        static int findMost(Weave weave, Threading told) {
            int best = NONE;
            int most = 0;
            for (int k = 0; k < told.colours; k++) {
                int count = countShown(weave, told.cards, k);
                if (count > most) {
                    most = count;
                    best = k;
                }
            }
            return best;
        }

        /** The i-th pair of CARDS that SHOWED the same; for NONE how many pairs there are. */
        static int findAlike(Weave weave, int cards, int i) {
            int count = 0;
            for (int a = 0; a < cards; a++) {
                for (int b = a + 1; b < cards; b++) {
                    if (showedSame(weave, a, b)) {
                        if (count == i) {
                            return 10 * a + b;
                        }
                        count++;
                    }
                }
            }
            return i == NONE ? count : NONE;
        }

        private static boolean showedSame(Weave weave, int a, int b) {
            for (int i = 0; i < weave.countRows(); i++) {
                if (weave.showedAt(i, a) != weave.showedAt(i, b)) {
                    return false;
                }
            }
            return true;
        }

        /** The ways in which a CARD may have been turned that SHOWED x and then y. */
        static int findTurns(Threading told, int c, int y, int x) {
            int ways = y == x ? 1 : 0;
            for (int hole = 0; y != NONE && hole < HOLES_MAX; hole++) {
                if (told.colourAt(c, hole) == y) {
                    boolean either = x == NONE || x == y;
                    if (either || x == told.colourAt(c, hole - 1)) {
                        ways |= 2;
                    }
                    if (either || x == told.colourAt(c, hole + 1)) {
                        ways |= 4;
                    }
                }
            }
            return ways;
        }
    }

    /** The fewest PICKS to an end. PACKS are turned independently, so the slowest tells. */
    private static final class Trying {
        private static final int NEVER = 1000;

        private static int firstCardOf(Threading told, int k) {
            for (int c = 0; c < told.cards; c++) {
                if (told.isInPack(c, k)) {
                    return c;
                }
            }
            return 0;
        }

        private static int twistOf(Weave weave, Threading told, int k) {
            return weave.twists[firstCardOf(told, k) & CARD_BITS];
        }

        private static int standOf(Weave weave, Threading told, int k) {
            return weave.stands[firstCardOf(told, k) & CARD_BITS];
        }

        static int countUntwist(Weave weave, Threading told) {
            int count = 0;
            for (int k = 0; k < told.packs; k++) {
                count = Math.max(count, Math.abs(twistOf(weave, told, k)));
            }
            return count;
        }

        static int firstUntwist(Weave weave, Threading told) {
            int moves = 0;
            for (int k = told.packs - 1; k >= 0; k--) {
                int twist = twistOf(weave, told, k);
                int move = twist == 0 ? STILL : twist > 0 ? BACK : FORWARD;
                moves = moves * FIGURES + move;
            }
            return moves;
        }

        static boolean packsStandAlike(Weave weave, Threading told) {
            for (int c = 0; c < told.cards && c < CARDS_MAX; c++) {
                int k = told.packOf[c];
                if (k != NONE && weave.stands[c] != standOf(weave, told, k)) {
                    return false;
                }
            }
            return true;
        }

        static int countHome(Weave weave, Threading told) {
            int count = 0;
            for (int k = 0; k < told.packs; k++) {
                int hole = standOf(weave, told, k);
                count = Math.max(count, Math.min(hole, HOLES_MAX - hole));
            }
            return count;
        }

        static int firstHome(Weave weave, Threading told) {
            int moves = 0;
            for (int k = told.packs - 1; k >= 0; k--) {
                int hole = standOf(weave, told, k);
                int move = hole == 0 ? STILL : hole == 1 ? BACK : FORWARD;
                moves = moves * FIGURES + move;
            }
            return moves;
        }

        static int countTogether(Weave weave, Threading told, int set, int colour) {
            // CARDS of no PACK are never turned, they must SHOW it already
            int count = showNow(weave, told, set & ~told.cardsInPacks, colour) ? 0 : NEVER;
            for (int k = 0; k < told.packs && k < PACKS_MAX; k++) {
                count = Math.max(count, countForPack(weave, told, set & told.packSets[k], colour));
            }
            return count == NEVER ? NONE : count;
        }

        /** A PACK that needs fewer PICKS than all together waits: that is the least figure. */
        static int firstTogether(Weave weave, Threading told, int set, int colour, int count) {
            int moves = 0;
            for (int k = Math.min(told.packs, PACKS_MAX) - 1; k >= 0; k--) {
                int part = set & told.packSets[k];
                int move = STILL;
                if (countForPack(weave, told, part, colour) == count && count > 0) {
                    move = showAhead(weave, told, part, colour, count - 1) ? FORWARD : BACK;
                }
                moves = moves * FIGURES + move;
            }
            return moves;
        }

        /**
         * Turned n times the same way, a CARD SHOWS the HOLE n - 1 further than it stands, or n back;
         * so two PICKS reach all four HOLES, and turning to and fro never is shorter.
         */
        private static int countForPack(Weave weave, Threading told, int part, int colour) {
            if (showNow(weave, told, part, colour)) {
                return 0;
            }
            for (int n = 1; n <= HOLES_MAX / 2; n++) {
                if (showAhead(weave, told, part, colour, n - 1) || showAhead(weave, told, part, colour, -n)) {
                    return n;
                }
            }
            return NEVER;
        }

        private static boolean showNow(Weave weave, Threading told, int part, int colour) {
            for (int c = 0; c < told.cards && c < CARDS_MAX; c++) {
                if ((part >> c & 1) == 1 && weave.shows[c] != colour) {
                    return false;
                }
            }
            return true;
        }

        private static boolean showAhead(Weave weave, Threading told, int part, int colour, int further) {
            for (int c = 0; c < told.cards && c < CARDS_MAX; c++) {
                if ((part >> c & 1) == 1 && told.colourAt(c, weave.stands[c] + further) != colour) {
                    return false;
                }
            }
            return true;
        }
    }

    /** What was SEEN, and THE BOOK. */
    private static final class Notes {
        final int[] seenCards = new int[SEEN_MAX];
        final int[] seenTurns = new int[SEEN_MAX];
        final int[] seenColours = new int[SEEN_MAX];
        final int[] bookCards = new int[BOOK_MAX];
        final int[] bookColours = new int[BOOK_MAX];
        int seenCount;
        int bookCount;

        void forget() {
            seenCount = 0;
            bookCount = 0;
        }

        boolean addSeen(int c, int turns, int colour) {
            if (seenCount >= SEEN_MAX) {
                return false;
            }
            seenCards[seenCount] = c;
            seenTurns[seenCount] = turns;
            seenColours[seenCount] = colour;
            seenCount++;
            return true;
        }

        boolean addEntry(int c, int colour) {
            if (bookCount >= BOOK_MAX) {
                return false;
            }
            bookCards[bookCount] = c;
            bookColours[bookCount] = colour;
            bookCount++;
            return true;
        }

        int findWrong(Weave weave) {
            for (int i = 0; i < bookCount && i < BOOK_MAX; i++) {
                if (weave.shows[bookCards[i] & CARD_BITS] != bookColours[i]) {
                    return i;
                }
            }
            return NONE;
        }

        int findHoles(Threading told, int c) {
            int set = ALL_HOLES;
            for (int i = 0; i < seenCount && i < SEEN_MAX; i++) {
                if (seenCards[i] == c) {
                    set &= holesThatShow(told, c, seenTurns[i], seenColours[i]);
                }
            }
            return set;
        }

        private static int holesThatShow(Threading told, int c, int turns, int colour) {
            int set = 0;
            for (int hole = 0; hole < HOLES_MAX; hole++) {
                if (told.colourAt(c, hole + turns - 1) == colour) {
                    set |= 1 << hole;
                }
            }
            return set;
        }

        int findLook(Threading told, int c) {
            int set = findHoles(told, c);
            int best = NONE;
            int least = Integer.bitCount(set);
            for (int turns = 1; turns <= HOLES_MAX; turns++) {
                int part = findGreatestPart(told, c, set, turns);
                if (part < least) {
                    least = part;
                    best = turns;
                }
            }
            return best;
        }

        private static int findGreatestPart(Threading told, int c, int set, int turns) {
            int greatest = 0;
            for (int k = 0; k < told.colours; k++) {
                int part = set & holesThatShow(told, c, turns, k);
                greatest = Math.max(greatest, Integer.bitCount(part));
            }
            return greatest;
        }
    }
}
